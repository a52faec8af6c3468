theorem aw_iadd {G : GD} {X : CX} {own : String} {cc : ByteArray} {pc : Nat} {ls sk : List Av} {n : Nat} {h : Hp} {cs ss : Nat} {a b : Int} (hC : Cx G X own cc) (hd : decode cc pc = .ok (.iadd, 1)) (k : AW G X (pc + 1) ls ((0, i_add a b) :: sk) n h cs ss) : AW G X pc ls ((0, b) :: (0, a) :: sk) n h cs ss := by
  intro ad H locs lr hR hl hm hs
  have hk := k ad H locs lr hR hl hm (okp (ok1 (ok1 hs)) (i32_rng _))
  rw [List.map_cons, show rv G ad (0, i_add a b) = .int (Int32.ofInt a + Int32.ofInt b) from congrArg Value.int (i32_to _)] at hk
  exact lv_iadd hC.1 hC.2.1 hd hk
theorem aw_isub {G : GD} {X : CX} {own : String} {cc : ByteArray} {pc : Nat} {ls sk : List Av} {n : Nat} {h : Hp} {cs ss : Nat} {a b : Int} (hC : Cx G X own cc) (hd : decode cc pc = .ok (.isub, 1)) (k : AW G X (pc + 1) ls ((0, i_sub a b) :: sk) n h cs ss) : AW G X pc ls ((0, b) :: (0, a) :: sk) n h cs ss := by
  intro ad H locs lr hR hl hm hs
  have hk := k ad H locs lr hR hl hm (okp (ok1 (ok1 hs)) (i32_rng _))
  rw [List.map_cons, show rv G ad (0, i_sub a b) = .int (Int32.ofInt a - Int32.ofInt b) from congrArg Value.int (i32_to _)] at hk
  exact lv_isub hC.1 hC.2.1 hd hk
theorem aw_imul {G : GD} {X : CX} {own : String} {cc : ByteArray} {pc : Nat} {ls sk : List Av} {n : Nat} {h : Hp} {cs ss : Nat} {a b : Int} (hC : Cx G X own cc) (hd : decode cc pc = .ok (.imul, 1)) (k : AW G X (pc + 1) ls ((0, i_mul a b) :: sk) n h cs ss) : AW G X pc ls ((0, b) :: (0, a) :: sk) n h cs ss := by
  intro ad H locs lr hR hl hm hs
  have hk := k ad H locs lr hR hl hm (okp (ok1 (ok1 hs)) (i32_rng _))
  rw [List.map_cons, show rv G ad (0, i_mul a b) = .int (Int32.ofInt a * Int32.ofInt b) from congrArg Value.int (i32_to _)] at hk
  exact lv_imul hC.1 hC.2.1 hd hk
theorem aw_iand {G : GD} {X : CX} {own : String} {cc : ByteArray} {pc : Nat} {ls sk : List Av} {n : Nat} {h : Hp} {cs ss : Nat} {a b : Int} (hC : Cx G X own cc) (hd : decode cc pc = .ok (.iand, 1)) (k : AW G X (pc + 1) ls ((0, i_and a b) :: sk) n h cs ss) : AW G X pc ls ((0, b) :: (0, a) :: sk) n h cs ss := by
  intro ad H locs lr hR hl hm hs
  have hk := k ad H locs lr hR hl hm (okp (ok1 (ok1 hs)) (i32_rng _))
  rw [List.map_cons, show rv G ad (0, i_and a b) = .int (Int32.ofInt a &&& Int32.ofInt b) from congrArg Value.int (i32_to _)] at hk
  exact lv_iand hC.1 hC.2.1 hd hk
theorem aw_ior {G : GD} {X : CX} {own : String} {cc : ByteArray} {pc : Nat} {ls sk : List Av} {n : Nat} {h : Hp} {cs ss : Nat} {a b : Int} (hC : Cx G X own cc) (hd : decode cc pc = .ok (.ior, 1)) (k : AW G X (pc + 1) ls ((0, i_or a b) :: sk) n h cs ss) : AW G X pc ls ((0, b) :: (0, a) :: sk) n h cs ss := by
  intro ad H locs lr hR hl hm hs
  have hk := k ad H locs lr hR hl hm (okp (ok1 (ok1 hs)) (i32_rng _))
  rw [List.map_cons, show rv G ad (0, i_or a b) = .int (Int32.ofInt a ||| Int32.ofInt b) from congrArg Value.int (i32_to _)] at hk
  exact lv_ior hC.1 hC.2.1 hd hk
theorem aw_ixor {G : GD} {X : CX} {own : String} {cc : ByteArray} {pc : Nat} {ls sk : List Av} {n : Nat} {h : Hp} {cs ss : Nat} {a b : Int} (hC : Cx G X own cc) (hd : decode cc pc = .ok (.ixor, 1)) (k : AW G X (pc + 1) ls ((0, i_xor a b) :: sk) n h cs ss) : AW G X pc ls ((0, b) :: (0, a) :: sk) n h cs ss := by
  intro ad H locs lr hR hl hm hs
  have hk := k ad H locs lr hR hl hm (okp (ok1 (ok1 hs)) (i32_rng _))
  rw [List.map_cons, show rv G ad (0, i_xor a b) = .int (Int32.ofInt a ^^^ Int32.ofInt b) from congrArg Value.int (i32_to _)] at hk
  exact lv_ixor hC.1 hC.2.1 hd hk
theorem aw_ishl {G : GD} {X : CX} {own : String} {cc : ByteArray} {pc : Nat} {ls sk : List Av} {n : Nat} {h : Hp} {cs ss : Nat} {a b : Int} (hC : Cx G X own cc) (hd : decode cc pc = .ok (.ishl, 1)) (k : AW G X (pc + 1) ls ((0, i_shl a b) :: sk) n h cs ss) : AW G X pc ls ((0, b) :: (0, a) :: sk) n h cs ss := by
  intro ad H locs lr hR hl hm hs
  have hk := k ad H locs lr hR hl hm (okp (ok1 (ok1 hs)) (i32_rng _))
  rw [List.map_cons, show rv G ad (0, i_shl a b) = .int (Int32.ofInt a <<< (Int32.ofInt b &&& 31)) from congrArg Value.int (i32_to _)] at hk
  exact lv_ishl hC.1 hC.2.1 hd hk
theorem aw_ishr {G : GD} {X : CX} {own : String} {cc : ByteArray} {pc : Nat} {ls sk : List Av} {n : Nat} {h : Hp} {cs ss : Nat} {a b : Int} (hC : Cx G X own cc) (hd : decode cc pc = .ok (.ishr, 1)) (k : AW G X (pc + 1) ls ((0, i_shr a b) :: sk) n h cs ss) : AW G X pc ls ((0, b) :: (0, a) :: sk) n h cs ss := by
  intro ad H locs lr hR hl hm hs
  have hk := k ad H locs lr hR hl hm (okp (ok1 (ok1 hs)) (i32_rng _))
  rw [List.map_cons, show rv G ad (0, i_shr a b) = .int (Int32.ofInt a >>> (Int32.ofInt b &&& 31)) from congrArg Value.int (i32_to _)] at hk
  exact lv_ishr hC.1 hC.2.1 hd hk
theorem aw_idiv {G : GD} {X : CX} {own : String} {cc : ByteArray} {pc : Nat} {ls sk : List Av} {n : Nat} {h : Hp} {cs ss : Nat} {a b : Int} (hC : Cx G X own cc) (hd : decode cc pc = .ok (.idiv, 1)) (h0 : b ≠ 0) (k : AW G X (pc + 1) ls ((0, i_div a b) :: sk) n h cs ss) : AW G X pc ls ((0, b) :: (0, a) :: sk) n h cs ss := by
  intro ad H locs lr hR hl hm hs
  have hk := k ad H locs lr hR hl hm (okp (ok1 (ok1 hs)) (i32_rng _))
  rw [List.map_cons, show rv G ad (0, i_div a b) = .int (Int32.ofInt a / Int32.ofInt b) from congrArg Value.int (i32_to _)] at hk
  exact lv_idiv hC.1 hC.2.1 hd (fun e => h0 ((i32_eq (okt hs) in32_lit0).mp e)) hk
theorem aw_irem {G : GD} {X : CX} {own : String} {cc : ByteArray} {pc : Nat} {ls sk : List Av} {n : Nat} {h : Hp} {cs ss : Nat} {a b : Int} (hC : Cx G X own cc) (hd : decode cc pc = .ok (.irem, 1)) (h0 : b ≠ 0) (k : AW G X (pc + 1) ls ((0, i_rem a b) :: sk) n h cs ss) : AW G X pc ls ((0, b) :: (0, a) :: sk) n h cs ss := by
  intro ad H locs lr hR hl hm hs
  have hk := k ad H locs lr hR hl hm (okp (ok1 (ok1 hs)) (i32_rng _))
  rw [List.map_cons, show rv G ad (0, i_rem a b) = .int (Int32.ofInt a - Int32.ofInt a / Int32.ofInt b * Int32.ofInt b) from congrArg Value.int (i32_to _)] at hk
  exact lv_irem hC.1 hC.2.1 hd (fun e => h0 ((i32_eq (okt hs) in32_lit0).mp e)) hk
theorem aw_iushr {G : GD} {X : CX} {own : String} {cc : ByteArray} {pc : Nat} {ls sk : List Av} {n : Nat} {h : Hp} {cs ss : Nat} {a b : Int} (hC : Cx G X own cc) (hd : decode cc pc = .ok (.iushr, 1)) (k : AW G X (pc + 1) ls ((0, i_ushr a b) :: sk) n h cs ss) : AW G X pc ls ((0, b) :: (0, a) :: sk) n h cs ss := by
  intro ad H locs lr hR hl hm hs
  have hk := k ad H locs lr hR hl hm (okp (ok1 (ok1 hs)) (i32_rng _))
  exact lv_iushr (v := Int32.ofInt (i_ushr a b)) hC.1 hC.2.1 hd (i32_to _).symm hk
theorem aw_ineg {G : GD} {X : CX} {own : String} {cc : ByteArray} {pc : Nat} {ls sk : List Av} {n : Nat} {h : Hp} {cs ss : Nat} {a : Int} (hC : Cx G X own cc) (hd : decode cc pc = .ok (.ineg, 1)) (k : AW G X (pc + 1) ls ((0, i_neg a) :: sk) n h cs ss) : AW G X pc ls ((0, a) :: sk) n h cs ss := by
  intro ad H locs lr hR hl hm hs
  have hk := k ad H locs lr hR hl hm (okp (ok1 hs) (i32_rng _))
  rw [List.map_cons, show rv G ad (0, i_neg a) = .int (-(Int32.ofInt a)) from congrArg Value.int (i32_to _)] at hk
  exact lv_ineg hC.1 hC.2.1 hd hk
theorem aw_i2b {G : GD} {X : CX} {own : String} {cc : ByteArray} {pc : Nat} {ls sk : List Av} {n : Nat} {h : Hp} {cs ss : Nat} {a : Int} (hC : Cx G X own cc) (hd : decode cc pc = .ok (.i2b, 1)) (k : AW G X (pc + 1) ls ((0, i_2b a) :: sk) n h cs ss) : AW G X pc ls ((0, a) :: sk) n h cs ss := by
  intro ad H locs lr hR hl hm hs
  have hk := k ad H locs lr hR hl hm (okp (ok1 hs) (i32_rng _))
  exact lv_i2b (v := Int32.ofInt (i_2b a)) hC.1 hC.2.1 hd (i32_to _).symm hk
theorem aw_lsub {G : GD} {X : CX} {own : String} {cc : ByteArray} {pc : Nat} {ls sk : List Av} {n : Nat} {h : Hp} {cs ss : Nat} {a b : Int} (hC : Cx G X own cc) (hd : decode cc pc = .ok (.lsub, 1)) (k : AW G X (pc + 1) ls ((1, l_sub a b) :: sk) n h cs ss) : AW G X pc ls ((1, b) :: (1, a) :: sk) n h cs ss := by
  intro ad H locs lr hR hl hm hs
  have hk := k ad H locs lr hR hl hm (okp (ok1 (ok1 hs)) (i64_rng _))
  rw [List.map_cons, show rv G ad (1, l_sub a b) = .long (Int64.ofInt a - Int64.ofInt b) from congrArg Value.long (i64_to _)] at hk
  exact lv_lsub hC.1 hC.2.1 hd hk
theorem aw_land {G : GD} {X : CX} {own : String} {cc : ByteArray} {pc : Nat} {ls sk : List Av} {n : Nat} {h : Hp} {cs ss : Nat} {a b : Int} (hC : Cx G X own cc) (hd : decode cc pc = .ok (.land, 1)) (k : AW G X (pc + 1) ls ((1, l_and a b) :: sk) n h cs ss) : AW G X pc ls ((1, b) :: (1, a) :: sk) n h cs ss := by
  intro ad H locs lr hR hl hm hs
  have hk := k ad H locs lr hR hl hm (okp (ok1 (ok1 hs)) (i64_rng _))
  rw [List.map_cons, show rv G ad (1, l_and a b) = .long (Int64.ofInt a &&& Int64.ofInt b) from congrArg Value.long (i64_to _)] at hk
  exact lv_land hC.1 hC.2.1 hd hk
theorem aw_lor {G : GD} {X : CX} {own : String} {cc : ByteArray} {pc : Nat} {ls sk : List Av} {n : Nat} {h : Hp} {cs ss : Nat} {a b : Int} (hC : Cx G X own cc) (hd : decode cc pc = .ok (.lor, 1)) (k : AW G X (pc + 1) ls ((1, l_or a b) :: sk) n h cs ss) : AW G X pc ls ((1, b) :: (1, a) :: sk) n h cs ss := by
  intro ad H locs lr hR hl hm hs
  have hk := k ad H locs lr hR hl hm (okp (ok1 (ok1 hs)) (i64_rng _))
  rw [List.map_cons, show rv G ad (1, l_or a b) = .long (Int64.ofInt a ||| Int64.ofInt b) from congrArg Value.long (i64_to _)] at hk
  exact lv_lor hC.1 hC.2.1 hd hk
theorem aw_lshl {G : GD} {X : CX} {own : String} {cc : ByteArray} {pc : Nat} {ls sk : List Av} {n : Nat} {h : Hp} {cs ss : Nat} {a b : Int} (hC : Cx G X own cc) (hd : decode cc pc = .ok (.lshl, 1)) (k : AW G X (pc + 1) ls ((1, l_shl a b) :: sk) n h cs ss) : AW G X pc ls ((0, b) :: (1, a) :: sk) n h cs ss := by
  intro ad H locs lr hR hl hm hs
  have hk := k ad H locs lr hR hl hm (okp (ok1 (ok1 hs)) (i64_rng _))
  exact lv_lshl (v := Int64.ofInt (l_shl a b)) hC.1 hC.2.1 hd (i64_to _).symm hk
theorem aw_lushr {G : GD} {X : CX} {own : String} {cc : ByteArray} {pc : Nat} {ls sk : List Av} {n : Nat} {h : Hp} {cs ss : Nat} {a b : Int} (hC : Cx G X own cc) (hd : decode cc pc = .ok (.lushr, 1)) (k : AW G X (pc + 1) ls ((1, l_ushr a b) :: sk) n h cs ss) : AW G X pc ls ((0, b) :: (1, a) :: sk) n h cs ss := by
  intro ad H locs lr hR hl hm hs
  have hk := k ad H locs lr hR hl hm (okp (ok1 (ok1 hs)) (i64_rng _))
  exact lv_lushr (v := Int64.ofInt (l_ushr a b)) hC.1 hC.2.1 hd (i64_to _).symm hk
theorem aw_lshr {G : GD} {X : CX} {own : String} {cc : ByteArray} {pc : Nat} {ls sk : List Av} {n : Nat} {h : Hp} {cs ss : Nat} {a b : Int} (hC : Cx G X own cc) (hd : decode cc pc = .ok (.lshr, 1)) (k : AW G X (pc + 1) ls ((1, l_shr a b) :: sk) n h cs ss) : AW G X pc ls ((0, b) :: (1, a) :: sk) n h cs ss := by
  intro ad H locs lr hR hl hm hs
  have hk := k ad H locs lr hR hl hm (okp (ok1 (ok1 hs)) (i64_rng _))
  exact lv_lshr (v := Int64.ofInt (l_shr a b)) hC.1 hC.2.1 hd (i64_to _).symm hk
theorem i2l_of {x : Int} (hx : in32 x) : (Int32.ofInt x).toInt64 = Int64.ofInt x := by
  rw [← i64_to (Int32.ofInt x).toInt64, Int32.toInt_toInt64, i32_of hx]
theorem aw_i2l {G : GD} {X : CX} {own : String} {cc : ByteArray} {pc : Nat} {ls sk : List Av} {n : Nat} {h : Hp} {cs ss : Nat} {a : Int} (hC : Cx G X own cc) (hd : decode cc pc = .ok (.i2l, 1)) (k : AW G X (pc + 1) ls ((1, a) :: sk) n h cs ss) : AW G X pc ls ((0, a) :: sk) n h cs ss := by
  intro ad H locs lr hR hl hm hs
  have h0 : in32 a := okt hs
  have hk := k ad H locs lr hR hl hm (okp (ok1 hs) (show in64 a from ⟨by have := h0.1; omega, by have := h0.2; omega⟩))
  exact lv_i2l (v := Int64.ofInt a) hC.1 hC.2.1 hd (i2l_of h0) hk
theorem aw_l2i {G : GD} {X : CX} {own : String} {cc : ByteArray} {pc : Nat} {ls sk : List Av} {n : Nat} {h : Hp} {cs ss : Nat} {a : Int} (hC : Cx G X own cc) (hd : decode cc pc = .ok (.l2i, 1)) (k : AW G X (pc + 1) ls ((0, l_2i a) :: sk) n h cs ss) : AW G X pc ls ((1, a) :: sk) n h cs ss := by
  intro ad H locs lr hR hl hm hs
  have hk := k ad H locs lr hR hl hm (okp (ok1 hs) (i32_rng _))
  exact lv_l2i (v := Int32.ofInt (l_2i a)) hC.1 hC.2.1 hd (i32_to _).symm hk
theorem l_cmp_rng (a b : Int) : in32 (l_cmp a b) := by
  unfold l_cmp
  split
  · decide
  · split <;> decide
theorem aw_lcmp {G : GD} {X : CX} {own : String} {cc : ByteArray} {pc : Nat} {ls sk : List Av} {n : Nat} {h : Hp} {cs ss : Nat} {a b : Int} (hC : Cx G X own cc) (hd : decode cc pc = .ok (.lcmp, 1)) (k : AW G X (pc + 1) ls ((0, l_cmp a b) :: sk) n h cs ss) : AW G X pc ls ((1, b) :: (1, a) :: sk) n h cs ss := by
  intro ad H locs lr hR hl hm hs
  have hk := k ad H locs lr hR hl hm (okp (ok1 (ok1 hs)) (l_cmp_rng _ _))
  have hb : in64 b := okt hs
  have ha : in64 a := okt (ok1 hs)
  have e : Int32.ofInt (l_cmp a b) = lg_cmp (Int64.ofInt a) (Int64.ofInt b) := by
    unfold l_cmp lg_cmp
    by_cases h1 : b < a
    · rw [if_pos h1, if_pos ((i64_lt hb ha).mpr h1)]; rfl
    · rw [if_neg h1, if_neg (fun q => h1 ((i64_lt hb ha).mp q))]
      by_cases h2 : a = b
      · rw [if_pos h2, if_pos ((i64_eq ha hb).mpr h2)]; rfl
      · rw [if_neg h2, if_neg (fun q => h2 ((i64_eq ha hb).mp q))]; rfl
  rw [List.map_cons, show rv G ad (0, l_cmp a b) = .int (lg_cmp (Int64.ofInt a) (Int64.ofInt b)) from congrArg Value.int e] at hk
  exact W.lcmp hC.1 hC.2.1 hd hk
theorem aw_iconst {G : GD} {X : CX} {own : String} {cc : ByteArray} {pc : Nat} {ls sk : List Av} {n : Nat} {h : Hp} {cs ss : Nat} {v : Int} (hC : Cx G X own cc) (hd : decode cc pc = .ok (.iconst v, 1)) (hv : in32 v) (k : AW G X (pc + 1) ls ((0, v) :: sk) n h cs ss) : AW G X pc ls sk n h cs ss := by
  intro ad H locs lr hR hl hm hs
  exact lv_iconst hC.1 hC.2.1 hd rfl (k ad H locs lr hR hl hm (okp hs hv))
theorem aw_bipush {G : GD} {X : CX} {own : String} {cc : ByteArray} {pc : Nat} {ls sk : List Av} {n : Nat} {h : Hp} {cs ss : Nat} {v : Int} (hC : Cx G X own cc) (hd : decode cc pc = .ok (.bipush v, 2)) (hv : in32 v) (he : (Int8.ofInt v).toInt32 = Int32.ofInt v) (k : AW G X (pc + 2) ls ((0, v) :: sk) n h cs ss) : AW G X pc ls sk n h cs ss := by
  intro ad H locs lr hR hl hm hs
  exact lv_bipush hC.1 hC.2.1 hd he (k ad H locs lr hR hl hm (okp hs hv))
theorem aw_sipush {G : GD} {X : CX} {own : String} {cc : ByteArray} {pc : Nat} {ls sk : List Av} {n : Nat} {h : Hp} {cs ss : Nat} {v : Int} (hC : Cx G X own cc) (hd : decode cc pc = .ok (.sipush v, 3)) (hv : in32 v) (he : (Int16.ofInt v).toInt32 = Int32.ofInt v) (k : AW G X (pc + 3) ls ((0, v) :: sk) n h cs ss) : AW G X pc ls sk n h cs ss := by
  intro ad H locs lr hR hl hm hs
  exact lv_sipush hC.1 hC.2.1 hd he (k ad H locs lr hR hl hm (okp hs hv))
theorem aw_lconst {G : GD} {X : CX} {own : String} {cc : ByteArray} {pc : Nat} {ls sk : List Av} {n : Nat} {h : Hp} {cs ss : Nat} {c : Fin 2} {v : Int} (hC : Cx G X own cc) (hd : decode cc pc = .ok (.lconst c, 1)) (hv : in64 v) (he : Int64.ofNat (c : Nat) = Int64.ofInt v) (k : AW G X (pc + 1) ls ((1, v) :: sk) n h cs ss) : AW G X pc ls sk n h cs ss := by
  intro ad H locs lr hR hl hm hs
  exact lv_lconst hC.1 hC.2.1 hd he (k ad H locs lr hR hl hm (okp hs hv))
theorem aw_ldc {G : GD} {X : CX} {own : String} {cc : ByteArray} {pc : Nat} {ls sk : List Av} {n : Nat} {h : Hp} {cs ss : Nat} {idx : Nat} {v : Int} (hC : Cx G X own cc) (hd : decode cc pc = .ok (.ldc idx, 2)) (hv : in32 v) (hw : Cond.constant own idx (Int32.ofInt v) ∈ TB) (k : AW G X (pc + 2) ls ((0, v) :: sk) n h cs ss) : AW G X pc ls sk n h cs ss := by
  intro ad H locs lr hR hl hm hs
  exact lv_ldc hC.1 hC.2.1 hC.2.2.1 (hC.2.2.2.1 _ hw) hd (k ad H locs lr hR hl hm (okp hs hv))
theorem aw_ldcw {G : GD} {X : CX} {own : String} {cc : ByteArray} {pc : Nat} {ls sk : List Av} {n : Nat} {h : Hp} {cs ss : Nat} {idx : Nat} {v : Int} (hC : Cx G X own cc) (hd : decode cc pc = .ok (.ldc_w idx, 3)) (hv : in32 v) (hw : Cond.constant own idx (Int32.ofInt v) ∈ TB) (k : AW G X (pc + 3) ls ((0, v) :: sk) n h cs ss) : AW G X pc ls sk n h cs ss := by
  intro ad H locs lr hR hl hm hs
  exact lv_ldcw hC.1 hC.2.1 hC.2.2.1 (hC.2.2.2.1 _ hw) hd (k ad H locs lr hR hl hm (okp hs hv))
theorem aw_ldc2 {G : GD} {X : CX} {own : String} {cc : ByteArray} {pc : Nat} {ls sk : List Av} {n : Nat} {h : Hp} {cs ss : Nat} {idx : Nat} {v : Int} (hC : Cx G X own cc) (hd : decode cc pc = .ok (.ldc2_w idx, 3)) (hv : in64 v) (hw : Cond.constantLong own idx (Int64.ofInt v) ∈ TB) (k : AW G X (pc + 3) ls ((1, v) :: sk) n h cs ss) : AW G X pc ls sk n h cs ss := by
  intro ad H locs lr hR hl hm hs
  exact lv_ldc2 hC.1 hC.2.1 hC.2.2.1 (hC.2.2.2.1 _ hw) hd (k ad H locs lr hR hl hm (okp hs hv))
theorem aw_iload_n {G : GD} {X : CX} {own : String} {cc : ByteArray} {pc : Nat} {ls sk : List Av} {n : Nat} {h : Hp} {cs ss : Nat} {j : Fin 4} {x : Int} (hC : Cx G X own cc) (hd : decode cc pc = .ok (.iload_n j, 1)) (hj : ls[(j : Nat)]? = some (0, x)) (k : AW G X (pc + 1) ls ((0, x) :: sk) n h cs ss) : AW G X pc ls sk n h cs ss := by
  intro ad H locs lr hR hl hm hs
  obtain ⟨h1, h2⟩ := hl.2.2 _ _ hj (by simp)
  exact lv_iload_n hC.1 hC.2.1 hd rfl h1 (k ad H locs lr hR hl hm (okp hs h2))
theorem aw_iload {G : GD} {X : CX} {own : String} {cc : ByteArray} {pc : Nat} {ls sk : List Av} {n : Nat} {h : Hp} {cs ss : Nat} {j : Nat} {x : Int} (hC : Cx G X own cc) (hd : decode cc pc = .ok (.iload j, 2)) (hj : ls[j]? = some (0, x)) (k : AW G X (pc + 2) ls ((0, x) :: sk) n h cs ss) : AW G X pc ls sk n h cs ss := by
  intro ad H locs lr hR hl hm hs
  obtain ⟨h1, h2⟩ := hl.2.2 _ _ hj (by simp)
  exact lv_iload hC.1 hC.2.1 hd h1 (k ad H locs lr hR hl hm (okp hs h2))
theorem aw_lload_n {G : GD} {X : CX} {own : String} {cc : ByteArray} {pc : Nat} {ls sk : List Av} {n : Nat} {h : Hp} {cs ss : Nat} {j : Fin 4} {x : Int} (hC : Cx G X own cc) (hd : decode cc pc = .ok (.lload_n j, 1)) (hj : ls[(j : Nat)]? = some (1, x)) (k : AW G X (pc + 1) ls ((1, x) :: sk) n h cs ss) : AW G X pc ls sk n h cs ss := by
  intro ad H locs lr hR hl hm hs
  obtain ⟨h1, h2⟩ := hl.2.2 _ _ hj (by simp)
  exact lv_lload_n hC.1 hC.2.1 hd rfl h1 (k ad H locs lr hR hl hm (okp hs h2))
theorem aw_lload {G : GD} {X : CX} {own : String} {cc : ByteArray} {pc : Nat} {ls sk : List Av} {n : Nat} {h : Hp} {cs ss : Nat} {j : Nat} {x : Int} (hC : Cx G X own cc) (hd : decode cc pc = .ok (.lload j, 2)) (hj : ls[j]? = some (1, x)) (k : AW G X (pc + 2) ls ((1, x) :: sk) n h cs ss) : AW G X pc ls sk n h cs ss := by
  intro ad H locs lr hR hl hm hs
  obtain ⟨h1, h2⟩ := hl.2.2 _ _ hj (by simp)
  exact lv_lload hC.1 hC.2.1 hd h1 (k ad H locs lr hR hl hm (okp hs h2))
theorem rv_ref (G : GD) (ad : Nat → Nat) (x : Int) : rv G ad (2, x) = .null ∨ ∃ q, rv G ad (2, x) = .ref q := by
  show rf ad x = _ ∨ ∃ q, rf ad x = _
  unfold rf
  split
  · exact Or.inl rfl
  · exact Or.inr ⟨_, rfl⟩
theorem aw_aload_n {G : GD} {X : CX} {own : String} {cc : ByteArray} {pc : Nat} {ls sk : List Av} {n : Nat} {h : Hp} {cs ss : Nat} {j : Fin 4} {x : Int} (hC : Cx G X own cc) (hd : decode cc pc = .ok (.aload_n j, 1)) (hj : ls[(j : Nat)]? = some (2, x)) (k : AW G X (pc + 1) ls ((2, x) :: sk) n h cs ss) : AW G X pc ls sk n h cs ss := by
  intro ad H locs lr hR hl hm hs
  obtain ⟨h1, h2⟩ := hl.2.2 _ _ hj (by simp)
  have hk := k ad H locs lr hR hl hm (okp hs h2)
  rw [List.map_cons] at hk
  rcases rv_ref G ad x with e | ⟨q, e⟩
  · rw [e] at h1 hk
    exact lv_aload_nN hC.1 hC.2.1 hd rfl h1 hk
  · rw [e] at h1 hk
    exact lv_aload_n hC.1 hC.2.1 hd rfl h1 hk
theorem aw_aload {G : GD} {X : CX} {own : String} {cc : ByteArray} {pc : Nat} {ls sk : List Av} {n : Nat} {h : Hp} {cs ss : Nat} {j : Nat} {x : Int} (hC : Cx G X own cc) (hd : decode cc pc = .ok (.aload j, 2)) (hj : ls[j]? = some (2, x)) (k : AW G X (pc + 2) ls ((2, x) :: sk) n h cs ss) : AW G X pc ls sk n h cs ss := by
  intro ad H locs lr hR hl hm hs
  obtain ⟨h1, h2⟩ := hl.2.2 _ _ hj (by simp)
  have hk := k ad H locs lr hR hl hm (okp hs h2)
  rw [List.map_cons] at hk
  rcases rv_ref G ad x with e | ⟨q, e⟩
  · rw [e] at h1 hk
    exact lv_aloadN hC.1 hC.2.1 hd h1 hk
  · rw [e] at h1 hk
    exact lv_aload hC.1 hC.2.1 hd h1 hk
theorem aw_aload_n3 {G : GD} {X : CX} {own : String} {cc : ByteArray} {pc : Nat} {ls sk : List Av} {n : Nat} {h : Hp} {cs ss : Nat} {j : Fin 4} {x : Int} (hC : Cx G X own cc) (hd : decode cc pc = .ok (.aload_n j, 1)) (hj : ls[(j : Nat)]? = some (3, x)) (k : AW G X (pc + 1) ls ((3, x) :: sk) n h cs ss) : AW G X pc ls sk n h cs ss := by
  intro ad H locs lr hR hl hm hs
  obtain ⟨h1, h2⟩ := hl.2.2 _ _ hj (by simp)
  exact lv_aload_n hC.1 hC.2.1 hd rfl h1 (k ad H locs lr hR hl hm (okp hs h2))
theorem rv_cat (G : GD) (ad : Nat → Nat) (v : Av) : (rv G ad v).category = if v.1 = 1 then 2 else 1 := by
  obtain ⟨t, x⟩ := v
  match t with
  | 0 => rfl
  | 1 => rfl
  | 2 =>
    rcases rv_ref G ad x with e | ⟨q, e⟩ <;> rw [e] <;> rfl
  | 3 => rfl
  | 4 => rfl
  | 5 => rfl
  | 6 =>
    show (if x < 0 then Value.null else Value.ref x.toNat).category = _
    split <;> rfl
  | t + 7 =>
    rw [if_neg (by simp)]
    rfl
theorem rv_cat1 {G : GD} {ad : Nat → Nat} {v : Av} (h : v.1 ≠ 1) : (rv G ad v).category = 1 := by rw [rv_cat, if_neg h]
theorem aw_dup {G : GD} {X : CX} {own : String} {cc : ByteArray} {pc : Nat} {ls sk : List Av} {n : Nat} {h : Hp} {cs ss : Nat} {v : Av} (hC : Cx G X own cc) (hd : decode cc pc = .ok (.dup, 1)) (hv : v.1 ≠ 1) (k : AW G X (pc + 1) ls (v :: v :: sk) n h cs ss) : AW G X pc ls (v :: sk) n h cs ss := by
  intro ad H locs lr hR hl hm hs
  exact lv_dup hC.1 hC.2.1 hd (rv_cat1 hv) (k ad H locs lr hR hl hm (okp hs (okt hs)))
theorem aw_pop {G : GD} {X : CX} {own : String} {cc : ByteArray} {pc : Nat} {ls sk : List Av} {n : Nat} {h : Hp} {cs ss : Nat} {v : Av} (hC : Cx G X own cc) (hd : decode cc pc = .ok (.pop, 1)) (hv : v.1 ≠ 1) (k : AW G X (pc + 1) ls sk n h cs ss) : AW G X pc ls (v :: sk) n h cs ss := by
  intro ad H locs lr hR hl hm hs
  exact lv_pop hC.1 hC.2.1 hd (rv_cat1 hv) (k ad H locs lr hR hl hm (ok1 hs))
theorem aw_dup2 {G : GD} {X : CX} {own : String} {cc : ByteArray} {pc : Nat} {ls sk : List Av} {n : Nat} {h : Hp} {cs ss : Nat} {v u : Av} (hC : Cx G X own cc) (hd : decode cc pc = .ok (.dup2, 1)) (hv : v.1 ≠ 1) (hu : u.1 ≠ 1) (k : AW G X (pc + 1) ls (v :: u :: v :: u :: sk) n h cs ss) : AW G X pc ls (v :: u :: sk) n h cs ss := by
  intro ad H locs lr hR hl hm hs
  exact lv_dup2_11 hC.1 hC.2.1 hd (rv_cat1 hv) (rv_cat1 hu) (k ad H locs lr hR hl hm (okp (okp hs (okt (ok1 hs))) (okt hs)))
theorem aw_icmp_eq {G : GD} {X : CX} {own : String} {cc : ByteArray} {pc : Nat} {ls sk : List Av} {n : Nat} {h : Hp} {cs ss : Nat} {a b off : Int} {tgt : Nat} (hC : Cx G X own cc) (hd : decode cc pc = .ok (.if_icmp .eq off, 3)) (ht : (pc : Int) + off = (tgt : Int)) (kt : a = b → AW G X tgt ls sk n h cs ss) (kf : ¬ (a = b) → AW G X (pc + 3) ls sk n h cs ss) : AW G X pc ls ((0, b) :: (0, a) :: sk) n h cs ss := by
  intro ad H locs lr hR hl hm hs
  have hb : in32 b := okt hs
  have ha : in32 a := okt (ok1 hs)
  exact lv_icmp_eq hC.1 hC.2.1 hd ht (fun q => kt (((i32_eq ha hb).mp) q) ad H locs lr hR hl hm (ok1 (ok1 hs))) (fun q => kf ((fun q => fun e => q ((i32_eq ha hb).mpr e)) q) ad H locs lr hR hl hm (ok1 (ok1 hs)))
theorem aw_if_eq {G : GD} {X : CX} {own : String} {cc : ByteArray} {pc : Nat} {ls sk : List Av} {n : Nat} {h : Hp} {cs ss : Nat} {a off : Int} {tgt : Nat} (hC : Cx G X own cc) (hd : decode cc pc = .ok (.ifCond .eq off, 3)) (ht : (pc : Int) + off = (tgt : Int)) (kt : a = 0 → AW G X tgt ls sk n h cs ss) (kf : ¬ (a = 0) → AW G X (pc + 3) ls sk n h cs ss) : AW G X pc ls ((0, a) :: sk) n h cs ss := by
  intro ad H locs lr hR hl hm hs
  have ha : in32 a := okt hs
  exact lv_if_eq hC.1 hC.2.1 hd ht (fun q => kt (((i32_eq ha in32_lit0).mp) q) ad H locs lr hR hl hm (ok1 hs)) (fun q => kf ((fun q => fun e => q ((i32_eq ha in32_lit0).mpr e)) q) ad H locs lr hR hl hm (ok1 hs))
theorem aw_icmp_ne {G : GD} {X : CX} {own : String} {cc : ByteArray} {pc : Nat} {ls sk : List Av} {n : Nat} {h : Hp} {cs ss : Nat} {a b off : Int} {tgt : Nat} (hC : Cx G X own cc) (hd : decode cc pc = .ok (.if_icmp .ne off, 3)) (ht : (pc : Int) + off = (tgt : Int)) (kt : ¬ a = b → AW G X tgt ls sk n h cs ss) (kf : a = b → AW G X (pc + 3) ls sk n h cs ss) : AW G X pc ls ((0, b) :: (0, a) :: sk) n h cs ss := by
  intro ad H locs lr hR hl hm hs
  have hb : in32 b := okt hs
  have ha : in32 a := okt (ok1 hs)
  exact lv_icmp_ne hC.1 hC.2.1 hd ht (fun q => kt ((fun q => fun e => q ((i32_eq ha hb).mpr e)) q) ad H locs lr hR hl hm (ok1 (ok1 hs))) (fun q => kf (((i32_eq ha hb).mp) q) ad H locs lr hR hl hm (ok1 (ok1 hs)))
theorem aw_if_ne {G : GD} {X : CX} {own : String} {cc : ByteArray} {pc : Nat} {ls sk : List Av} {n : Nat} {h : Hp} {cs ss : Nat} {a off : Int} {tgt : Nat} (hC : Cx G X own cc) (hd : decode cc pc = .ok (.ifCond .ne off, 3)) (ht : (pc : Int) + off = (tgt : Int)) (kt : ¬ a = 0 → AW G X tgt ls sk n h cs ss) (kf : a = 0 → AW G X (pc + 3) ls sk n h cs ss) : AW G X pc ls ((0, a) :: sk) n h cs ss := by
  intro ad H locs lr hR hl hm hs
  have ha : in32 a := okt hs
  exact lv_if_ne hC.1 hC.2.1 hd ht (fun q => kt ((fun q => fun e => q ((i32_eq ha in32_lit0).mpr e)) q) ad H locs lr hR hl hm (ok1 hs)) (fun q => kf (((i32_eq ha in32_lit0).mp) q) ad H locs lr hR hl hm (ok1 hs))
theorem aw_icmp_lt {G : GD} {X : CX} {own : String} {cc : ByteArray} {pc : Nat} {ls sk : List Av} {n : Nat} {h : Hp} {cs ss : Nat} {a b off : Int} {tgt : Nat} (hC : Cx G X own cc) (hd : decode cc pc = .ok (.if_icmp .lt off, 3)) (ht : (pc : Int) + off = (tgt : Int)) (kt : a < b → AW G X tgt ls sk n h cs ss) (kf : ¬ (a < b) → AW G X (pc + 3) ls sk n h cs ss) : AW G X pc ls ((0, b) :: (0, a) :: sk) n h cs ss := by
  intro ad H locs lr hR hl hm hs
  have hb : in32 b := okt hs
  have ha : in32 a := okt (ok1 hs)
  exact lv_icmp_lt hC.1 hC.2.1 hd ht (fun q => kt (((i32_lt ha hb).mp) q) ad H locs lr hR hl hm (ok1 (ok1 hs))) (fun q => kf ((fun q => fun e => q ((i32_lt ha hb).mpr e)) q) ad H locs lr hR hl hm (ok1 (ok1 hs)))
theorem aw_if_lt {G : GD} {X : CX} {own : String} {cc : ByteArray} {pc : Nat} {ls sk : List Av} {n : Nat} {h : Hp} {cs ss : Nat} {a off : Int} {tgt : Nat} (hC : Cx G X own cc) (hd : decode cc pc = .ok (.ifCond .lt off, 3)) (ht : (pc : Int) + off = (tgt : Int)) (kt : a < 0 → AW G X tgt ls sk n h cs ss) (kf : ¬ (a < 0) → AW G X (pc + 3) ls sk n h cs ss) : AW G X pc ls ((0, a) :: sk) n h cs ss := by
  intro ad H locs lr hR hl hm hs
  have ha : in32 a := okt hs
  exact lv_if_lt hC.1 hC.2.1 hd ht (fun q => kt (((i32_lt ha in32_lit0).mp) q) ad H locs lr hR hl hm (ok1 hs)) (fun q => kf ((fun q => fun e => q ((i32_lt ha in32_lit0).mpr e)) q) ad H locs lr hR hl hm (ok1 hs))
theorem aw_icmp_ge {G : GD} {X : CX} {own : String} {cc : ByteArray} {pc : Nat} {ls sk : List Av} {n : Nat} {h : Hp} {cs ss : Nat} {a b off : Int} {tgt : Nat} (hC : Cx G X own cc) (hd : decode cc pc = .ok (.if_icmp .ge off, 3)) (ht : (pc : Int) + off = (tgt : Int)) (kt : b ≤ a → AW G X tgt ls sk n h cs ss) (kf : ¬ (b ≤ a) → AW G X (pc + 3) ls sk n h cs ss) : AW G X pc ls ((0, b) :: (0, a) :: sk) n h cs ss := by
  intro ad H locs lr hR hl hm hs
  have hb : in32 b := okt hs
  have ha : in32 a := okt (ok1 hs)
  exact lv_icmp_ge hC.1 hC.2.1 hd ht (fun q => kt (((i32_le hb ha).mp) q) ad H locs lr hR hl hm (ok1 (ok1 hs))) (fun q => kf ((fun q => fun e => q ((i32_le hb ha).mpr e)) q) ad H locs lr hR hl hm (ok1 (ok1 hs)))
theorem aw_if_ge {G : GD} {X : CX} {own : String} {cc : ByteArray} {pc : Nat} {ls sk : List Av} {n : Nat} {h : Hp} {cs ss : Nat} {a off : Int} {tgt : Nat} (hC : Cx G X own cc) (hd : decode cc pc = .ok (.ifCond .ge off, 3)) (ht : (pc : Int) + off = (tgt : Int)) (kt : 0 ≤ a → AW G X tgt ls sk n h cs ss) (kf : ¬ (0 ≤ a) → AW G X (pc + 3) ls sk n h cs ss) : AW G X pc ls ((0, a) :: sk) n h cs ss := by
  intro ad H locs lr hR hl hm hs
  have ha : in32 a := okt hs
  exact lv_if_ge hC.1 hC.2.1 hd ht (fun q => kt (((i32_le in32_lit0 ha).mp) q) ad H locs lr hR hl hm (ok1 hs)) (fun q => kf ((fun q => fun e => q ((i32_le in32_lit0 ha).mpr e)) q) ad H locs lr hR hl hm (ok1 hs))
theorem aw_icmp_gt {G : GD} {X : CX} {own : String} {cc : ByteArray} {pc : Nat} {ls sk : List Av} {n : Nat} {h : Hp} {cs ss : Nat} {a b off : Int} {tgt : Nat} (hC : Cx G X own cc) (hd : decode cc pc = .ok (.if_icmp .gt off, 3)) (ht : (pc : Int) + off = (tgt : Int)) (kt : b < a → AW G X tgt ls sk n h cs ss) (kf : ¬ (b < a) → AW G X (pc + 3) ls sk n h cs ss) : AW G X pc ls ((0, b) :: (0, a) :: sk) n h cs ss := by
  intro ad H locs lr hR hl hm hs
  have hb : in32 b := okt hs
  have ha : in32 a := okt (ok1 hs)
  exact lv_icmp_gt hC.1 hC.2.1 hd ht (fun q => kt (((i32_lt hb ha).mp) q) ad H locs lr hR hl hm (ok1 (ok1 hs))) (fun q => kf ((fun q => fun e => q ((i32_lt hb ha).mpr e)) q) ad H locs lr hR hl hm (ok1 (ok1 hs)))
theorem aw_if_gt {G : GD} {X : CX} {own : String} {cc : ByteArray} {pc : Nat} {ls sk : List Av} {n : Nat} {h : Hp} {cs ss : Nat} {a off : Int} {tgt : Nat} (hC : Cx G X own cc) (hd : decode cc pc = .ok (.ifCond .gt off, 3)) (ht : (pc : Int) + off = (tgt : Int)) (kt : 0 < a → AW G X tgt ls sk n h cs ss) (kf : ¬ (0 < a) → AW G X (pc + 3) ls sk n h cs ss) : AW G X pc ls ((0, a) :: sk) n h cs ss := by
  intro ad H locs lr hR hl hm hs
  have ha : in32 a := okt hs
  exact lv_if_gt hC.1 hC.2.1 hd ht (fun q => kt (((i32_lt in32_lit0 ha).mp) q) ad H locs lr hR hl hm (ok1 hs)) (fun q => kf ((fun q => fun e => q ((i32_lt in32_lit0 ha).mpr e)) q) ad H locs lr hR hl hm (ok1 hs))
theorem aw_icmp_le {G : GD} {X : CX} {own : String} {cc : ByteArray} {pc : Nat} {ls sk : List Av} {n : Nat} {h : Hp} {cs ss : Nat} {a b off : Int} {tgt : Nat} (hC : Cx G X own cc) (hd : decode cc pc = .ok (.if_icmp .le off, 3)) (ht : (pc : Int) + off = (tgt : Int)) (kt : a ≤ b → AW G X tgt ls sk n h cs ss) (kf : ¬ (a ≤ b) → AW G X (pc + 3) ls sk n h cs ss) : AW G X pc ls ((0, b) :: (0, a) :: sk) n h cs ss := by
  intro ad H locs lr hR hl hm hs
  have hb : in32 b := okt hs
  have ha : in32 a := okt (ok1 hs)
  exact lv_icmp_le hC.1 hC.2.1 hd ht (fun q => kt (((i32_le ha hb).mp) q) ad H locs lr hR hl hm (ok1 (ok1 hs))) (fun q => kf ((fun q => fun e => q ((i32_le ha hb).mpr e)) q) ad H locs lr hR hl hm (ok1 (ok1 hs)))
theorem aw_if_le {G : GD} {X : CX} {own : String} {cc : ByteArray} {pc : Nat} {ls sk : List Av} {n : Nat} {h : Hp} {cs ss : Nat} {a off : Int} {tgt : Nat} (hC : Cx G X own cc) (hd : decode cc pc = .ok (.ifCond .le off, 3)) (ht : (pc : Int) + off = (tgt : Int)) (kt : a ≤ 0 → AW G X tgt ls sk n h cs ss) (kf : ¬ (a ≤ 0) → AW G X (pc + 3) ls sk n h cs ss) : AW G X pc ls ((0, a) :: sk) n h cs ss := by
  intro ad H locs lr hR hl hm hs
  have ha : in32 a := okt hs
  exact lv_if_le hC.1 hC.2.1 hd ht (fun q => kt (((i32_le ha in32_lit0).mp) q) ad H locs lr hR hl hm (ok1 hs)) (fun q => kf ((fun q => fun e => q ((i32_le ha in32_lit0).mpr e)) q) ad H locs lr hR hl hm (ok1 hs))
theorem aw_goto {G : GD} {X : CX} {own : String} {cc : ByteArray} {pc : Nat} {ls sk : List Av} {n : Nat} {h : Hp} {cs ss : Nat} {off : Int} {tgt : Nat} (hC : Cx G X own cc) (hd : decode cc pc = .ok (.goto off, 3)) (ht : (pc : Int) + off = (tgt : Int)) (k : AW G X tgt ls sk n h cs ss) : AW G X pc ls sk n h cs ss := by
  intro ad H locs lr hR hl hm hs
  exact lv_goto hC.1 hC.2.1 hd ht (k ad H locs lr hR hl hm hs)
theorem aw_tableIn {G : GD} {X : CX} {own : String} {cc : ByteArray} {pc : Nat} {ls sk : List Av} {n : Nat} {h : Hp} {cs ss : Nat} {a dflt lo hi off : Int} {offs : Array Int} {len tgt : Nat} (hC : Cx G X own cc) (hd : decode cc pc = .ok (.tableswitch dflt lo hi offs, len)) (h1 : ¬ a < lo) (h2 : ¬ hi < a) (ho : offs[(a - lo).toNat]? = some off) (ht : (pc : Int) + off = (tgt : Int)) (k : AW G X tgt ls sk n h cs ss) : AW G X pc ls ((0, a) :: sk) n h cs ss := by
  intro ad H locs lr hR hl hm hs
  have ha : in32 a := okt hs
  exact lv_tableIn hC.1 hC.2.1 hd (by rw [i32_of ha]; exact h1) (by rw [i32_of ha]; exact h2) (by rw [i32_of ha]; exact ho) ht (k ad H locs lr hR hl hm (ok1 hs))
theorem aw_tableOut {G : GD} {X : CX} {own : String} {cc : ByteArray} {pc : Nat} {ls sk : List Av} {n : Nat} {h : Hp} {cs ss : Nat} {a dflt lo hi : Int} {offs : Array Int} {len tgt : Nat} (hC : Cx G X own cc) (hd : decode cc pc = .ok (.tableswitch dflt lo hi offs, len)) (h1 : a < lo ∨ hi < a) (ht : (pc : Int) + dflt = (tgt : Int)) (k : AW G X tgt ls sk n h cs ss) : AW G X pc ls ((0, a) :: sk) n h cs ss := by
  intro ad H locs lr hR hl hm hs
  have ha : in32 a := okt hs
  exact lv_tableOut hC.1 hC.2.1 hd (by rw [i32_of ha]; exact h1) ht (k ad H locs lr hR hl hm (ok1 hs))
