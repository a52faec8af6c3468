/-! texts: String's own methods on the words of the class -/
def slen_ (w : Int) : Int := ((STRL.getD (w.toNat - 10) []).length : Int)
def schar_ (w i : Int) : Int := (STRL.getD (w.toNat - 10) []).getD i.toNat 0
theorem strl_ok : ∀ l ∈ STRL, l.length ≤ 6 ∧ ∀ v ∈ l, in32 v ∧ i_and v 255 = v ∧ (Int32.ofInt v).toUInt32 % 65536 = (Int32.ofInt v).toUInt32 ∧ narrow .char (.int (Int32.ofInt v)) = .int (Int32.ofInt v) := by decide +kernel
theorem slen_rng (w : Int) : 0 ≤ slen_ w ∧ slen_ w ≤ 6 := by
  unfold slen_
  refine ⟨by omega, ?_⟩
  rw [List.getD_eq_getElem?_getD]
  cases hq : STRL[w.toNat - 10]? with
  | none => simp
  | some l =>
    have := (strl_ok l (List.mem_of_getElem? hq)).1
    simp only [Option.getD_some]
    omega
theorem schar_ok {w i : Int} (h0 : 0 ≤ i) (h1 : i < slen_ w) : in32 (schar_ w i) ∧ i_and (schar_ w i) 255 = schar_ w i ∧ (Int32.ofInt (schar_ w i)).toUInt32 % 65536 = (Int32.ofInt (schar_ w i)).toUInt32 ∧ narrow .char (.int (Int32.ofInt (schar_ w i))) = .int (Int32.ofInt (schar_ w i)) := by
  unfold slen_ at h1
  unfold schar_
  rw [List.getD_eq_getElem?_getD] at h1
  rw [List.getD_eq_getElem?_getD (l := STRL)]
  cases hq : STRL[w.toNat - 10]? with
  | none => rw [hq] at h1; simp at h1; omega
  | some l =>
    rw [hq] at h1
    simp only [Option.getD_some] at h1 ⊢
    refine (strl_ok l (List.mem_of_getElem? hq)).2 _ ?_
    rw [List.getD_eq_getElem?_getD, List.getElem?_eq_getElem (show i.toNat < l.length by omega)]
    exact List.getElem_mem _
section Strs
variable {G : GD} {X : CX} {own : String} {cc : ByteArray} {pc : Nat} {ls sk : List Av} {n : Nat} {h : Hp} {cs ss : Nat}
theorem lkS9 : Cond.fieldLink RJ0 9 "java/lang/String" "value" "[B" ∈ TB := tb_of 1902 (by decide +kernel) (by decide +kernel)
theorem lkS15 : Cond.fieldLink RJ0 15 "java/lang/String" "coder" "B" ∈ TB := tb_of 1903 (by decide +kernel) (by decide +kernel)
theorem lkS38 : Cond.fieldLink RJ0 38 "java/lang/String" "COMPACT_STRINGS" "Z" ∈ TB := tb_of 734 (by decide +kernel) (by decide +kernel)
theorem lkS1053 : Cond.fieldLink RJ0 1053 "jdk/internal/util/Preconditions" "SIOOBE_FORMATTER" "Ljava/util/function/BiFunction;" ∈ TB := tb_of 750 (by decide +kernel) (by decide +kernel)
theorem aw_roval {x : Int} (hC : Cx G X RJ0 cc) (hw : 10 ≤ x ∧ x < 27) (hd : decode cc pc = .ok (.getfield 9, 3)) (kk : AW G X (pc + 3) ls ((3, x + 100) :: sk) n h cs ss) : AW G X pc ls ((3, x) :: sk) n h cs ss := by
  intro ad H locs lr hR hl hm hs
  have hk := kk ad H locs lr hR hl hm (okp (ok1 hs) trivial)
  have e : rv G ad (3, x + 100) = .ref (G.2.2 (x.toNat + 100)) := by
    show Value.ref (G.2.2 (x + 100).toNat) = _
    rw [show (x + 100).toNat = x.toNat + 100 by omega]
  rw [List.map_cons, e] at hk
  exact vk_getf hC.1 hC.2.1 (hC.ro.2.2.1 x.toNat (by omega) (by omega)).2.2.1 hR.2.2.1 hC.2.2.1 (hC.2.2.2.1 _ lkS9) (fun _ h9 => h9) hd hk
theorem aw_rocoder {x : Int} (hC : Cx G X RJ0 cc) (hw : 10 ≤ x ∧ x < 27) (hd : decode cc pc = .ok (.getfield 15, 3)) (kk : AW G X (pc + 3) ls ((0, 0) :: sk) n h cs ss) : AW G X pc ls ((3, x) :: sk) n h cs ss := by
  intro ad H locs lr hR hl hm hs
  have hk := kk ad H locs lr hR hl hm (okp (ok1 hs) in32_lit0)
  exact vk_getf hC.1 hC.2.1 (hC.ro.2.2.1 x.toNat (by omega) (by omega)).2.1 hR.2.2.1 hC.2.2.1 (hC.2.2.2.1 _ lkS15) (fun _ h9 => h9) hd hk
theorem aw_compact (hC : Cx G X RJ0 cc) (hd : decode cc pc = .ok (.getstatic 38, 3)) (kk : AW G X (pc + 3) ls ((0, 1) :: sk) n h cs ss) : AW G X pc ls sk n h cs ss := by
  intro ad H locs lr hR hl hm hs
  have hk := kk ad H locs lr hR hl hm (okp hs (by decide : in32 1))
  exact va_gets hC.1 hC.2.1 hC.ro.2.2.2.1.1 hR.2.2.1 hC.2.2.1 (hC.2.2.2.1 _ lkS38) (fun _ h9 => h9) hd hk
theorem aw_sioobe (hC : Cx G X RJ0 cc) (hd : decode cc pc = .ok (.getstatic 1053, 3)) (kk : ∀ x : Int, AW G X (pc + 3) ls ((6, x) :: sk) n h cs ss) : AW G X pc ls sk n h cs ss := by
  intro ad H locs lr hR hl hm hs
  rcases hC.ro.2.2.2.1.2 with hZ | ⟨t, hZ⟩
  · have hk := kk (-1) ad H locs lr hR hl hm (okp hs trivial)
    exact va_gets hC.1 hC.2.1 hZ hR.2.2.1 hC.2.2.1 (hC.2.2.2.1 _ lkS1053) (fun _ h9 => h9) hd hk
  · have hk := kk (t : Int) ad H locs lr hR hl hm (okp hs trivial)
    have e : rv G ad (6, (t : Int)) = .ref t := by
      show (if (t : Int) < 0 then Value.null else Value.ref (t : Int).toNat) = _
      rw [if_neg (by omega)]
      rfl
    rw [List.map_cons, e] at hk
    exact va_gets hC.1 hC.2.1 hZ hR.2.2.1 hC.2.2.1 (hC.2.2.2.1 _ lkS1053) (fun _ h9 => h9) hd hk
theorem aw_rolen {x : Int} (hC : Cx G X own cc) (hw : 10 ≤ x ∧ x < 27) (hd : decode cc pc = .ok (.arraylength, 1)) (kk : AW G X (pc + 1) ls ((0, slen_ x) :: sk) n h cs ss) : AW G X pc ls ((3, x + 100) :: sk) n h cs ss := by
  intro ad H locs lr hR hl hm hs
  have hr := slen_rng x
  have hk := kk ad H locs lr hR hl hm (okp (ok1 hs) (show in32 (slen_ x) from ⟨by omega, by omega⟩))
  have e : rv G ad (3, x + 100) = .ref (G.2.2 (x.toNat + 100)) := by
    show Value.ref (G.2.2 (x + 100).toNat) = _
    rw [show (x + 100).toNat = x.toNat + 100 by omega]
  rw [List.map_cons, e]
  exact va_tlen hC.1 hC.2.1 (hC.ro.2.2.1 x.toNat (by omega) (by omega)).2.2.2 hR.2.2.1 (v := Int32.ofInt (slen_ x)) (by unfold slen_; exact Int32.ofInt_eq_ofNat.symm) hd hk
theorem aw_robyte {x i : Int} (hC : Cx G X own cc) (hw : 10 ≤ x ∧ x < 27) (hd : decode cc pc = .ok (.baload, 1)) (h0 : 0 ≤ i) (h1 : i < slen_ x) (kk : AW G X (pc + 1) ls ((0, schar_ x i) :: sk) n h cs ss) : AW G X pc ls ((0, i) :: (3, x + 100) :: sk) n h cs ss := by
  intro ad H locs lr hR hl hm hs
  have hi : in32 i := okt hs
  have hk := kk ad H locs lr hR hl hm (okp (ok1 (ok1 hs)) (schar_ok h0 h1).1)
  have e : rv G ad (3, x + 100) = .ref (G.2.2 (x.toNat + 100)) := by
    show Value.ref (G.2.2 (x + 100).toNat) = _
    rw [show (x + 100).toNat = x.toNat + 100 by omega]
  rw [List.map_cons, List.map_cons, e]
  exact va_tb hC.1 hC.2.1 (hC.ro.2.2.1 x.toNat (by omega) (by omega)).2.2.2 hR.2.2.1 (vp_in_of32 hi h0 h1) (by rw [i32_clamp hi]; rfl) hd hk
theorem aw_i2c {x : Int} (hC : Cx G X own cc) (hd : decode cc pc = .ok (.i2c, 1)) (hv : (Int32.ofInt x).toUInt32 % 65536 = (Int32.ofInt x).toUInt32) (kk : AW G X (pc + 1) ls ((0, x) :: sk) n h cs ss) : AW G X pc ls ((0, x) :: sk) n h cs ss := by
  intro ad H locs lr hR hl hm hs
  have hk := kk ad H locs lr hR hl hm hs
  exact lv_i2c (v := Int32.ofInt x) hC.1 hC.2.1 hd (by first | (rw [hv]; rfl) | (rw [hv]; simp)) hk
theorem aw_nreturn {x : Int} {ty : FieldType} {mc ms : Nat} {Q : Av → Nat → Hp → Prop} (hC : Cx G X own cc) (hZ : ZOK X G Q mc ms) (hc : cs ≤ mc) (hs9 : ss ≤ ms) (hr : X.meth.sig.returnType = some ty) (hn : narrow ty (.int (Int32.ofInt x)) = .int (Int32.ofInt x)) (hd : decode cc pc = .ok (.ireturn, 1)) (hQ : Q (0, x) n h) : AW G X pc ls [(0, x)] n h cs ss := by
  intro ad H locs lr hR hl hm hs
  have hx : in32 x := okt hs
  rw [hZ]
  refine W.widen hc hs9 ?_
  exact W.zret (v := Int32.ofInt x) hC.1 hC.2.1 hr hn (qc_of (v := (0, x)) hC hR hx hQ) hR.2.2.1.2.2 hd hC.2.2.2.2.2.2.1
theorem aw_sO {x : Int} (hC : Cx G X own cc) (hw : 10 ≤ x ∧ x < 27) : va_O "java/lang/String" (G.2.2 x.toNat) X.A X.s X.s.heap := (hC.ro.2.2.1 x.toNat (by omega) (by omega)).1
end Strs
theorem ok_coder {G : GD} {n : Nat} {x : Int} {h : Hp} (hw : 10 ≤ x ∧ x < 27) : Con G yJ0_coder_7d493 cJ0_coder_7d493 1 (some .byte) 0 0 0 true [(3, x)] n h (FQ 0 n (0, h)) := by
  refine con_of (pad := 0) (own := RJ0) (by decide +kernel) rfl rfl ?_
  intro X hC hbt hr hnm hZ hRm hn0
  show AW G X 0 [(3, x)] [] n h 0 0
  refine aw_compact hC dJ0_coder_7d493_0 ?_
  refine aw_if_eq (tgt := 13) hC dJ0_coder_7d493_3 (by decide) (fun c => absurd c (by decide)) (fun _ => ?_)
  refine aw_aload_n3 hC dJ0_coder_7d493_6 rfl ?_
  refine aw_rocoder hC hw dJ0_coder_7d493_7 ?_
  refine aw_goto (tgt := 14) hC dJ0_coder_7d493_10 (by decide) ?_
  exact aw_nreturn hC hZ (Nat.zero_le _) (Nat.zero_le _) hr (by decide) dJ0_coder_7d493_14 ⟨rfl, rfl, rfl⟩
theorem ok_isLatin1 {G : GD} {n : Nat} {x : Int} {h : Hp} (hw : 10 ≤ x ∧ x < 27) : Con G yJ0_isLatin1_aae02 cJ0_isLatin1_aae02 1 (some .boolean) 0 0 0 true [(3, x)] n h (FQ 0 n (1, h)) := by
  refine con_of (pad := 0) (own := RJ0) (by decide +kernel) rfl rfl ?_
  intro X hC hbt hr hnm hZ hRm hn0
  show AW G X 0 [(3, x)] [] n h 0 0
  refine aw_compact hC dJ0_isLatin1_aae02_0 ?_
  refine aw_if_eq (tgt := 17) hC dJ0_isLatin1_aae02_3 (by decide) (fun c => absurd c (by decide)) (fun _ => ?_)
  refine aw_aload_n3 hC dJ0_isLatin1_aae02_6 rfl ?_
  refine aw_rocoder hC hw dJ0_isLatin1_aae02_7 ?_
  refine aw_if_ne (tgt := 17) hC dJ0_isLatin1_aae02_10 (by decide) (fun c => absurd rfl c) (fun _ => ?_)
  refine aw_iconst hC dJ0_isLatin1_aae02_13 (by decide) ?_
  refine aw_goto (tgt := 18) hC dJ0_isLatin1_aae02_14 (by decide) ?_
  exact aw_zreturn hC hZ (Nat.zero_le _) (Nat.zero_le _) hr rfl dJ0_isLatin1_aae02_18 (by decide) ⟨rfl, rfl, rfl⟩
theorem i_shr0 {v : Int} (hv : in32 v) : i_shr v 0 = v := by
  unfold i_shr
  rw [show (Int32.ofInt 0 &&& 31) = (0 : Int32) &&& 31 from rfl, sb_shr0, i32_of hv]
set_option maxRecDepth 20000 in
theorem cwS335 : ∀ w ∈ ([.methodLink RJ0 335 yJ0_coder_7d493, .instanceMethod yJ0_coder_7d493, .selects "java/lang/String" yJ0_coder_7d493 yJ0_coder_7d493, .initialized "java/lang/String", .code yJ0_coder_7d493 cJ0_coder_7d493 1 (some .byte)] : List Cond), w ∈ TB := tb_all [730, 731, 732, 118, 733] rfl (by decide +kernel)
set_option maxRecDepth 20000 in
theorem cwS492 : ∀ w ∈ ([.methodLink RJ0 492 yJ0_isLatin1_aae02, .instanceMethod yJ0_isLatin1_aae02, .selects "java/lang/String" yJ0_isLatin1_aae02 yJ0_isLatin1_aae02, .initialized "java/lang/String", .code yJ0_isLatin1_aae02 cJ0_isLatin1_aae02 1 (some .boolean)] : List Cond), w ∈ TB := tb_all [740, 741, 742, 118, 743] rfl (by decide +kernel)
set_option maxRecDepth 20000 in
theorem cwS495 : ∀ w ∈ ([.methodLink RJ0 495 yJ1_charAt_3b067, .static yJ1_charAt_3b067, .initialized yJ1_charAt_3b067.cls, .code yJ1_charAt_3b067 cJ1_charAt_3b067 2 (some .char)] : List Cond), w ∈ TB := tb_all [744, 745, 119, 746] rfl (by decide +kernel)
set_option maxRecDepth 20000 in
theorem cwS9 : ∀ w ∈ ([.methodLink RJ1 9 yJ0_checkIndex_df160, .static yJ0_checkIndex_df160, .initialized yJ0_checkIndex_df160.cls, .code yJ0_checkIndex_df160 cJ0_checkIndex_df160 2 none] : List Cond), w ∈ TB := tb_all [747, 748, 118, 749] rfl (by decide +kernel)
set_option maxRecDepth 20000 in
theorem cwS1059 : ∀ w ∈ ([.methodLink RJ0 1059 yJ3_checkIndex_8e157, .static yJ3_checkIndex_8e157, .initialized yJ3_checkIndex_8e157.cls, .code yJ3_checkIndex_8e157 cJ3_checkIndex_8e157 3 (some .int)] : List Cond), w ∈ TB := tb_all [752, 753, 120, 754] rfl (by decide +kernel)
theorem cdS (y : MethodName) (k : Nat) (h : y.cls ≠ "java/lang/invoke/MethodHandle" ∧ y.cls ≠ "java/lang/invoke/VarHandle" ∧ (parseMethodDescriptor y.desc).map (fun d => d.parameters.length) = some k) : y.cls ≠ "java/lang/invoke/MethodHandle" ∧ y.cls ≠ "java/lang/invoke/VarHandle" ∧ (parseMethodDescriptor y.desc).map (fun d => d.parameters.length) = some k := h
theorem ok_length {G : GD} {n : Nat} {x : Int} {h : Hp} (hw : 10 ≤ x ∧ x < 27) : Con G yJ0_length_8abf5 cJ0_length_8abf5 1 (some .int) 1 0 0 true [(3, x)] n h (FQ 0 n (slen_ x, h)) := by
  refine con_of (pad := 0) (own := RJ0) (by decide +kernel) rfl rfl ?_
  intro X hC hbt hr hnm hZ hRm hn0
  show AW G X 0 [(3, x)] [] n h 0 0
  refine aw_aload_n3 hC dJ0_length_8abf5_0 rfl ?_
  refine aw_roval hC hw dJ0_length_8abf5_1 ?_
  refine aw_rolen hC hw dJ0_length_8abf5_4 ?_
  refine aw_aload_n3 hC dJ0_length_8abf5_5 rfl ?_
  refine aw_callVR (av := []) hC hRm dJ0_length_8abf5_6 (aw_sO hC hw) rfl cwS335 (by decide) rfl (Nat.le_of_ble_eq_true rfl) (by decide) (Nat.zero_le _) (Nat.zero_le _) (Nat.le_of_ble_eq_true rfl) (by rw [hbt]; exact ok_coder hw) (fun v n' h' _ hQ => ?_)
  obtain ⟨rfl, rfl, rfl⟩ := hQ
  refine aw_ishr hC dJ0_length_8abf5_9 ?_
  have hr9 := slen_rng x
  refine aw_eqT (i_shr0 (v := slen_ x) ⟨by omega, by omega⟩).symm ?_
  exact aw_ireturn hC hZ (Nat.zero_le _) (Nat.zero_le _) hr dJ0_length_8abf5_10 ⟨rfl, rfl, rfl⟩
theorem ok_chk3 {G : GD} {n : Nat} {i len x : Int} {h : Hp} (h0 : 0 ≤ i) (h1 : i < len) : Con G yJ3_checkIndex_8e157 cJ3_checkIndex_8e157 3 (some .int) 0 0 0 true [(0, i), (0, len), (6, x)] n h (FQ 0 n (i, h)) := by
  refine con_of (pad := 0) (own := RJ3) (by decide +kernel) rfl rfl ?_
  intro X hC hbt hr hnm hZ hRm hn0
  show AW G X 0 [(0, i), (0, len), (6, x)] [] n h 0 0
  refine aw_iload_n hC dJ3_checkIndex_8e157_0 rfl ?_
  refine aw_if_lt (tgt := 9) hC dJ3_checkIndex_8e157_1 (by decide) (fun c => absurd c (by omega)) (fun _ => ?_)
  refine aw_iload_n hC dJ3_checkIndex_8e157_4 rfl ?_
  refine aw_iload_n hC dJ3_checkIndex_8e157_5 rfl ?_
  refine aw_icmp_lt (tgt := 16) hC dJ3_checkIndex_8e157_6 (by decide) (fun _ => ?_) (fun c => absurd h1 c)
  refine aw_iload_n hC dJ3_checkIndex_8e157_16 rfl ?_
  exact aw_ireturn hC hZ (Nat.zero_le _) (Nat.zero_le _) hr dJ3_checkIndex_8e157_17 ⟨rfl, rfl, rfl⟩
theorem ok_chk0 {G : GD} {n : Nat} {i len : Int} {h : Hp} (h0 : 0 ≤ i) (h1 : i < len) : Con G yJ0_checkIndex_df160 cJ0_checkIndex_df160 2 none 1 0 0 true [(0, i), (0, len)] n h (FQ 8 n (0, h)) := by
  refine con_of (pad := 0) (own := RJ0) (by decide +kernel) rfl rfl ?_
  intro X hC hbt hr hnm hZ hRm hn0
  show AW G X 0 [(0, i), (0, len)] [] n h 0 0
  refine aw_iload_n hC dJ0_checkIndex_df160_0 rfl ?_
  refine aw_iload_n hC dJ0_checkIndex_df160_1 rfl ?_
  refine aw_sioobe hC dJ0_checkIndex_df160_2 (fun x => ?_)
  refine aw_callS (av := [(0, i), (0, len), (6, x)]) hC hRm dJ0_checkIndex_df160_5 cwS1059 (by exact cdS yJ3_checkIndex_8e157 3 (by decide +kernel)) (Nat.le_of_ble_eq_true rfl) (by decide) (Nat.zero_le _) (Nat.zero_le _) (Nat.le_of_ble_eq_true rfl) (by rw [hbt]; exact ok_chk3 h0 h1) (fun v n' h' _ hQ => ?_)
  obtain ⟨rfl, rfl, rfl⟩ := hQ
  refine aw_pop hC dJ0_checkIndex_df160_8 (by simp) ?_
  exact aw_return hC hZ (Nat.zero_le _) (Nat.zero_le _) hr dJ0_checkIndex_df160_9 ⟨rfl, rfl, rfl⟩
theorem ok_char1 {G : GD} {n : Nat} {x i : Int} {h : Hp} (hw : 10 ≤ x ∧ x < 27) (h0 : 0 ≤ i) (h1 : i < slen_ x) : Con G yJ1_charAt_3b067 cJ1_charAt_3b067 2 (some .char) 2 0 0 true [(3, x + 100), (0, i)] n h (FQ 0 n (schar_ x i, h)) := by
  refine con_of (pad := 0) (own := RJ1) (by decide +kernel) rfl rfl ?_
  intro X hC hbt hr hnm hZ hRm hn0
  show AW G X 0 [(3, x + 100), (0, i)] [] n h 0 0
  refine aw_iload_n hC dJ1_charAt_3b067_0 rfl ?_
  refine aw_aload_n3 hC dJ1_charAt_3b067_1 rfl ?_
  refine aw_rolen hC hw dJ1_charAt_3b067_2 ?_
  refine aw_callS (av := [(0, i), (0, slen_ x)]) hC hRm dJ1_charAt_3b067_3 cwS9 (by exact cdS yJ0_checkIndex_df160 2 (by decide +kernel)) (Nat.le_of_ble_eq_true rfl) (by decide) (Nat.zero_le _) (Nat.zero_le _) (Nat.le_of_ble_eq_true rfl) (by rw [hbt]; exact ok_chk0 h0 h1) (fun v n' h' _ hQ => ?_)
  obtain ⟨rfl, rfl, rfl⟩ := hQ
  refine aw_aload_n3 hC dJ1_charAt_3b067_6 rfl ?_
  refine aw_iload_n hC dJ1_charAt_3b067_7 rfl ?_
  refine aw_robyte hC hw dJ1_charAt_3b067_8 h0 h1 ?_
  refine aw_sipush hC dJ1_charAt_3b067_9 (by decide) (by decide) ?_
  refine aw_iand hC dJ1_charAt_3b067_12 ?_
  obtain ⟨k1, k2, k3, k4⟩ := schar_ok h0 h1
  refine aw_eqT k2.symm ?_
  refine aw_i2c hC dJ1_charAt_3b067_13 k3 ?_
  exact aw_nreturn hC hZ (Nat.zero_le _) (Nat.zero_le _) hr k4 dJ1_charAt_3b067_14 ⟨rfl, rfl, rfl⟩
theorem ok_charAt {G : GD} {n : Nat} {x i : Int} {h : Hp} (hw : 10 ≤ x ∧ x < 27) (h0 : 0 ≤ i) (h1 : i < slen_ x) : Con G yJ0_charAt_5068e cJ0_charAt_5068e 2 (some .char) 3 0 0 true [(3, x), (0, i)] n h (FQ 0 n (schar_ x i, h)) := by
  refine con_of (pad := 0) (own := RJ0) (by decide +kernel) rfl rfl ?_
  intro X hC hbt hr hnm hZ hRm hn0
  show AW G X 0 [(3, x), (0, i)] [] n h 0 0
  refine aw_aload_n3 hC dJ0_charAt_5068e_0 rfl ?_
  refine aw_callVR (av := []) hC hRm dJ0_charAt_5068e_1 (aw_sO hC hw) rfl cwS492 (by decide) rfl (Nat.le_of_ble_eq_true rfl) (by decide) (Nat.zero_le _) (Nat.zero_le _) (Nat.le_of_ble_eq_true rfl) (by rw [hbt]; exact ok_isLatin1 hw) (fun v n' h' _ hQ => ?_)
  obtain ⟨rfl, rfl, rfl⟩ := hQ
  refine aw_if_eq (tgt := 16) hC dJ0_charAt_5068e_4 (by decide) (fun c => absurd (show (1 : Int) = 0 from c) (by decide)) (fun _ => ?_)
  refine aw_aload_n3 hC dJ0_charAt_5068e_7 rfl ?_
  refine aw_roval hC hw dJ0_charAt_5068e_8 ?_
  refine aw_iload_n hC dJ0_charAt_5068e_11 rfl ?_
  refine aw_callS (av := [(3, x + 100), (0, i)]) hC hRm dJ0_charAt_5068e_12 cwS495 (by exact cdS yJ1_charAt_3b067 2 (by decide +kernel)) (Nat.le_of_ble_eq_true rfl) (by decide) (Nat.zero_le _) (Nat.zero_le _) (Nat.le_of_ble_eq_true rfl) (by rw [hbt]; exact ok_char1 hw h0 h1) (fun v n' h' _ hQ => ?_)
  obtain ⟨rfl, rfl, rfl⟩ := hQ
  obtain ⟨k1, k2, k3, k4⟩ := schar_ok h0 h1
  exact aw_nreturn hC hZ (Nat.zero_le _) (Nat.zero_le _) hr k4 dJ0_charAt_5068e_15 ⟨rfl, rfl, rfl⟩
set_option maxRecDepth 20000 in
theorem cwSl : ∀ w ∈ ([.instanceMethod yJ0_length_8abf5, .selects "java/lang/String" yJ0_length_8abf5 yJ0_length_8abf5, .initialized "java/lang/String", .code yJ0_length_8abf5 cJ0_length_8abf5 1 (some .int)] : List Cond), w ∈ TB := tb_all [727, 728, 118, 729] rfl (by decide +kernel)
set_option maxRecDepth 20000 in
theorem cwSc : ∀ w ∈ ([.instanceMethod yJ0_charAt_5068e, .selects "java/lang/String" yJ0_charAt_5068e yJ0_charAt_5068e, .initialized "java/lang/String", .code yJ0_charAt_5068e cJ0_charAt_5068e 2 (some .char)] : List Cond), w ∈ TB := tb_all [737, 738, 118, 739] rfl (by decide +kernel)
section Strs2
variable {G : GD} {X : CX} {cc : ByteArray} {pc : Nat} {ls sk : List Av} {n : Nat} {h : Hp} {mc ms d : Nat}
theorem aw_strlen {idx : Nat} {x : Int} (hC : Cx G X RX2 cc) (hRm : X.R = rmd d mc ms) (hbt : X.bt = true) (hw : 10 ≤ x ∧ x < 27) (hd : decode cc pc = .ok (.invokevirtual idx, 3)) (hd1 : 8 ≤ d) (hl : Cond.methodLink RX2 idx yJ0_length_8abf5 ∈ TB) (hcat : (sk.map (fun v => if v.1 = 1 then 2 else 1)).sum ≤ 8) (kk : AW G X (pc + 3) ls ((0, slen_ x) :: sk) n h 0 0) : AW G X pc ls ((3, x) :: sk) n h 0 0 := by
  refine aw_callVR (av := []) (y := yJ0_length_8abf5) (b := cJ0_length_8abf5) (mL := 1) (r := some .int) (d' := 1) (mc' := 0) (ms' := 0) hC hRm hd (aw_sO hC hw) rfl (fun w h1 => ?_) (by decide) rfl (by omega) (by decide) (Nat.zero_le _) (Nat.zero_le _) hcat (by rw [hbt]; exact ok_length hw) (fun v n' h' _ hQ => ?_)
  · rcases List.mem_cons.mp h1 with e | h1
    · rw [e]; exact hl
    · exact cwSl w h1
  · obtain ⟨rfl, rfl, rfl⟩ := hQ
    exact kk
theorem aw_charAt {idx : Nat} {x i : Int} (hC : Cx G X RX2 cc) (hRm : X.R = rmd d mc ms) (hbt : X.bt = true) (hw : 10 ≤ x ∧ x < 27) (hd : decode cc pc = .ok (.invokevirtual idx, 3)) (hd1 : 8 ≤ d) (hl : Cond.methodLink RX2 idx yJ0_charAt_5068e ∈ TB) (h0 : 0 ≤ i) (h1 : i < slen_ x) (hcat : (sk.map (fun v => if v.1 = 1 then 2 else 1)).sum ≤ 8) (kk : AW G X (pc + 3) ls ((0, schar_ x i) :: sk) n h 0 0) : AW G X pc ls ((0, i) :: (3, x) :: sk) n h 0 0 := by
  refine aw_callVR (av := [(0, i)]) (y := yJ0_charAt_5068e) (b := cJ0_charAt_5068e) (mL := 2) (r := some .char) (d' := 3) (mc' := 0) (ms' := 0) hC hRm hd (aw_sO hC hw) rfl (fun w h1 => ?_) (by exact cdS yJ0_charAt_5068e 1 (by decide +kernel)) rfl (by omega) (by decide) (Nat.zero_le _) (Nat.zero_le _) hcat (by rw [hbt]; exact ok_charAt hw h0 h1) (fun v n' h' _ hQ => ?_)
  · rcases List.mem_cons.mp h1 with e | h1
    · rw [e]; exact hl
    · exact cwSc w h1
  · obtain ⟨rfl, rfl, rfl⟩ := hQ
    exact kk
end Strs2

theorem slnkRX2_99 : Cond.methodLink RX2 99 yJ0_length_8abf5 ∈ TB := tb_of 726 (by decide +kernel) (by decide +kernel)
theorem slnkRX2_104 : Cond.methodLink RX2 104 yJ0_charAt_5068e ∈ TB := tb_of 736 (by decide +kernel) (by decide +kernel)
theorem aw_ldcs_RX2_63 {G : GD} {X : CX} {cc : ByteArray} {pc : Nat} {ls sk : List Av} {n : Nat} {h : Hp} {cs ss : Nat} (hC : Cx G X RX2 cc) (hd : decode cc pc = .ok (.ldc 63, 2)) (kk : AW G X (pc + 2) ls ((3, 10) :: sk) n h cs ss) : AW G X pc ls sk n h cs ss := by
  intro ad H locs lr hR hl hm hs
  have hk := kk ad H locs lr hR hl hm (okp hs trivial)
  have hZ : vk_R RX2 63 "land" (G.2.2 10) X.s := hC.nw.2 ("HorizonDues$Reader", 63, "land", 10) (List.mem_of_getElem? (i := 1) rfl)
  exact va_ldcS hC.1 hC.2.1 hC.2.2.1 hZ hd hk
theorem aw_ldcs_RX2_131 {G : GD} {X : CX} {cc : ByteArray} {pc : Nat} {ls sk : List Av} {n : Nat} {h : Hp} {cs ss : Nat} (hC : Cx G X RX2 cc) (hd : decode cc pc = .ok (.ldc 131, 2)) (kk : AW G X (pc + 2) ls ((3, 11) :: sk) n h cs ss) : AW G X pc ls sk n h cs ss := by
  intro ad H locs lr hR hl hm hs
  have hk := kk ad H locs lr hR hl hm (okp hs trivial)
  have hZ : vk_R RX2 131 "high" (G.2.2 11) X.s := hC.nw.2 ("HorizonDues$Reader", 131, "high", 11) (List.mem_of_getElem? (i := 2) rfl)
  exact va_ldcS hC.1 hC.2.1 hC.2.2.1 hZ hd hk
theorem aw_ldcs_RX2_136 {G : GD} {X : CX} {cc : ByteArray} {pc : Nat} {ls sk : List Av} {n : Nat} {h : Hp} {cs ss : Nat} (hC : Cx G X RX2 cc) (hd : decode cc pc = .ok (.ldc 136, 2)) (kk : AW G X (pc + 2) ls ((3, 12) :: sk) n h cs ss) : AW G X pc ls sk n h cs ss := by
  intro ad H locs lr hR hl hm hs
  have hk := kk ad H locs lr hR hl hm (okp hs trivial)
  have hZ : vk_R RX2 136 "tree" (G.2.2 12) X.s := hC.nw.2 ("HorizonDues$Reader", 136, "tree", 12) (List.mem_of_getElem? (i := 3) rfl)
  exact va_ldcS hC.1 hC.2.1 hC.2.2.1 hZ hd hk
theorem aw_ldcs_RX2_141 {G : GD} {X : CX} {cc : ByteArray} {pc : Nat} {ls sk : List Av} {n : Nat} {h : Hp} {cs ss : Nat} (hC : Cx G X RX2 cc) (hd : decode cc pc = .ok (.ldc 141, 2)) (kk : AW G X (pc + 2) ls ((3, 13) :: sk) n h cs ss) : AW G X pc ls sk n h cs ss := by
  intro ad H locs lr hR hl hm hs
  have hk := kk ad H locs lr hR hl hm (okp hs trivial)
  have hZ : vk_R RX2 141 "villa" (G.2.2 13) X.s := hC.nw.2 ("HorizonDues$Reader", 141, "villa", 13) (List.mem_of_getElem? (i := 4) rfl)
  exact va_ldcS hC.1 hC.2.1 hC.2.2.1 hZ hd hk
theorem aw_ldcs_RX2_146 {G : GD} {X : CX} {cc : ByteArray} {pc : Nat} {ls sk : List Av} {n : Nat} {h : Hp} {cs ss : Nat} (hC : Cx G X RX2 cc) (hd : decode cc pc = .ok (.ldc 146, 2)) (kk : AW G X (pc + 2) ls ((3, 14) :: sk) n h cs ss) : AW G X pc ls sk n h cs ss := by
  intro ad H locs lr hR hl hm hs
  have hk := kk ad H locs lr hR hl hm (okp hs trivial)
  have hZ : vk_R RX2 146 "inn" (G.2.2 14) X.s := hC.nw.2 ("HorizonDues$Reader", 146, "inn", 14) (List.mem_of_getElem? (i := 5) rfl)
  exact va_ldcS hC.1 hC.2.1 hC.2.2.1 hZ hd hk
theorem aw_ldcs_RX2_148 {G : GD} {X : CX} {cc : ByteArray} {pc : Nat} {ls sk : List Av} {n : Nat} {h : Hp} {cs ss : Nat} (hC : Cx G X RX2 cc) (hd : decode cc pc = .ok (.ldc 148, 2)) (kk : AW G X (pc + 2) ls ((3, 15) :: sk) n h cs ss) : AW G X pc ls sk n h cs ss := by
  intro ad H locs lr hR hl hm hs
  have hk := kk ad H locs lr hR hl hm (okp hs trivial)
  have hZ : vk_R RX2 148 "blind" (G.2.2 15) X.s := hC.nw.2 ("HorizonDues$Reader", 148, "blind", 15) (List.mem_of_getElem? (i := 6) rfl)
  exact va_ldcS hC.1 hC.2.1 hC.2.2.1 hZ hd hk
theorem aw_ldcs_RX2_150 {G : GD} {X : CX} {cc : ByteArray} {pc : Nat} {ls sk : List Av} {n : Nat} {h : Hp} {cs ss : Nat} (hC : Cx G X RX2 cc) (hd : decode cc pc = .ok (.ldc 150, 2)) (kk : AW G X (pc + 2) ls ((3, 16) :: sk) n h cs ss) : AW G X pc ls sk n h cs ss := by
  intro ad H locs lr hR hl hm hs
  have hk := kk ad H locs lr hR hl hm (okp hs trivial)
  have hZ : vk_R RX2 150 "fog" (G.2.2 16) X.s := hC.nw.2 ("HorizonDues$Reader", 150, "fog", 16) (List.mem_of_getElem? (i := 7) rfl)
  exact va_ldcS hC.1 hC.2.1 hC.2.2.1 hZ hd hk
theorem aw_ldcs_RX2_155 {G : GD} {X : CX} {cc : ByteArray} {pc : Nat} {ls sk : List Av} {n : Nat} {h : Hp} {cs ss : Nat} (hC : Cx G X RX2 cc) (hd : decode cc pc = .ok (.ldc 155, 2)) (kk : AW G X (pc + 2) ls ((3, 17) :: sk) n h cs ss) : AW G X pc ls sk n h cs ss := by
  intro ad H locs lr hR hl hm hs
  have hk := kk ad H locs lr hR hl hm (okp hs trivial)
  have hZ : vk_R RX2 155 "tax" (G.2.2 17) X.s := hC.nw.2 ("HorizonDues$Reader", 155, "tax", 17) (List.mem_of_getElem? (i := 8) rfl)
  exact va_ldcS hC.1 hC.2.1 hC.2.2.1 hZ hd hk
theorem aw_ldcs_RX2_190 {G : GD} {X : CX} {cc : ByteArray} {pc : Nat} {ls sk : List Av} {n : Nat} {h : Hp} {cs ss : Nat} (hC : Cx G X RX2 cc) (hd : decode cc pc = .ok (.ldc 190, 2)) (kk : AW G X (pc + 2) ls ((3, 18) :: sk) n h cs ss) : AW G X pc ls sk n h cs ss := by
  intro ad H locs lr hR hl hm hs
  have hk := kk ad H locs lr hR hl hm (okp hs trivial)
  have hZ : vk_R RX2 190 "not" (G.2.2 18) X.s := hC.nw.2 ("HorizonDues$Reader", 190, "not", 18) (List.mem_of_getElem? (i := 9) rfl)
  exact va_ldcS hC.1 hC.2.1 hC.2.2.1 hZ hd hk
theorem aw_ldcs_RX2_226 {G : GD} {X : CX} {cc : ByteArray} {pc : Nat} {ls sk : List Av} {n : Nat} {h : Hp} {cs ss : Nat} (hC : Cx G X RX2 cc) (hd : decode cc pc = .ok (.ldc 226, 2)) (kk : AW G X (pc + 2) ls ((3, 25) :: sk) n h cs ss) : AW G X pc ls sk n h cs ss := by
  intro ad H locs lr hR hl hm hs
  have hk := kk ad H locs lr hR hl hm (okp hs trivial)
  have hZ : vk_R RX2 226 "or" (G.2.2 25) X.s := hC.nw.2 ("HorizonDues$Reader", 226, "or", 25) (List.mem_of_getElem? (i := 10) rfl)
  exact va_ldcS hC.1 hC.2.1 hC.2.2.1 hZ hd hk
theorem aw_ldcs_RX2_228 {G : GD} {X : CX} {cc : ByteArray} {pc : Nat} {ls sk : List Av} {n : Nat} {h : Hp} {cs ss : Nat} (hC : Cx G X RX2 cc) (hd : decode cc pc = .ok (.ldc 228, 2)) (kk : AW G X (pc + 2) ls ((3, 26) :: sk) n h cs ss) : AW G X pc ls sk n h cs ss := by
  intro ad H locs lr hR hl hm hs
  have hk := kk ad H locs lr hR hl hm (okp hs trivial)
  have hZ : vk_R RX2 228 "and" (G.2.2 26) X.s := hC.nw.2 ("HorizonDues$Reader", 228, "and", 26) (List.mem_of_getElem? (i := 11) rfl)
  exact va_ldcS hC.1 hC.2.1 hC.2.2.1 hZ hd hk
theorem aw_ldcs_RX2_230 {G : GD} {X : CX} {cc : ByteArray} {pc : Nat} {ls sk : List Av} {n : Nat} {h : Hp} {cs ss : Nat} (hC : Cx G X RX2 cc) (hd : decode cc pc = .ok (.ldc 230, 2)) (kk : AW G X (pc + 2) ls ((3, 19) :: sk) n h cs ss) : AW G X pc ls sk n h cs ss := by
  intro ad H locs lr hR hl hm hs
  have hk := kk ad H locs lr hR hl hm (okp hs trivial)
  have hZ : vk_R RX2 230 "miles" (G.2.2 19) X.s := hC.nw.2 ("HorizonDues$Reader", 230, "miles", 19) (List.mem_of_getElem? (i := 12) rfl)
  exact va_ldcS hC.1 hC.2.1 hC.2.2.1 hZ hd hk
theorem aw_ldcs_RX2_232 {G : GD} {X : CX} {cc : ByteArray} {pc : Nat} {ls sk : List Av} {n : Nat} {h : Hp} {cs ss : Nat} (hC : Cx G X RX2 cc) (hd : decode cc pc = .ok (.ldc 232, 2)) (kk : AW G X (pc + 2) ls ((3, 20) :: sk) n h cs ss) : AW G X pc ls sk n h cs ss := by
  intro ad H locs lr hR hl hm hs
  have hk := kk ad H locs lr hR hl hm (okp hs trivial)
  have hZ : vk_R RX2 232 "far" (G.2.2 20) X.s := hC.nw.2 ("HorizonDues$Reader", 232, "far", 20) (List.mem_of_getElem? (i := 13) rfl)
  exact va_ldcS hC.1 hC.2.1 hC.2.2.1 hZ hd hk
theorem aw_ldcs_RX2_234 {G : GD} {X : CX} {cc : ByteArray} {pc : Nat} {ls sk : List Av} {n : Nat} {h : Hp} {cs ss : Nat} (hC : Cx G X RX2 cc) (hd : decode cc pc = .ok (.ldc 234, 2)) (kk : AW G X (pc + 2) ls ((3, 21) :: sk) n h cs ss) : AW G X pc ls sk n h cs ss := by
  intro ad H locs lr hR hl hm hs
  have hk := kk ad H locs lr hR hl hm (okp hs trivial)
  have hZ : vk_R RX2 234 "kind" (G.2.2 21) X.s := hC.nw.2 ("HorizonDues$Reader", 234, "kind", 21) (List.mem_of_getElem? (i := 14) rfl)
  exact va_ldcS hC.1 hC.2.1 hC.2.2.1 hZ hd hk
theorem aw_ldcs_RX2_235 {G : GD} {X : CX} {cc : ByteArray} {pc : Nat} {ls sk : List Av} {n : Nat} {h : Hp} {cs ss : Nat} (hC : Cx G X RX2 cc) (hd : decode cc pc = .ok (.ldc 235, 2)) (kk : AW G X (pc + 2) ls ((3, 22) :: sk) n h cs ss) : AW G X pc ls sk n h cs ss := by
  intro ad H locs lr hR hl hm hs
  have hk := kk ad H locs lr hR hl hm (okp hs trivial)
  have hZ : vk_R RX2 235 "year" (G.2.2 22) X.s := hC.nw.2 ("HorizonDues$Reader", 235, "year", 22) (List.mem_of_getElem? (i := 15) rfl)
  exact va_ldcS hC.1 hC.2.1 hC.2.2.1 hZ hd hk
theorem aw_ldcs_RX2_237 {G : GD} {X : CX} {cc : ByteArray} {pc : Nat} {ls sk : List Av} {n : Nat} {h : Hp} {cs ss : Nat} (hC : Cx G X RX2 cc) (hd : decode cc pc = .ok (.ldc 237, 2)) (kk : AW G X (pc + 2) ls ((3, 23) :: sk) n h cs ss) : AW G X pc ls sk n h cs ss := by
  intro ad H locs lr hR hl hm hs
  have hk := kk ad H locs lr hR hl hm (okp hs trivial)
  have hZ : vk_R RX2 237 "houses" (G.2.2 23) X.s := hC.nw.2 ("HorizonDues$Reader", 237, "houses", 23) (List.mem_of_getElem? (i := 16) rfl)
  exact va_ldcS hC.1 hC.2.1 hC.2.2.1 hZ hd hk
theorem aw_ldcs_RX2_238 {G : GD} {X : CX} {cc : ByteArray} {pc : Nat} {ls sk : List Av} {n : Nat} {h : Hp} {cs ss : Nat} (hC : Cx G X RX2 cc) (hd : decode cc pc = .ok (.ldc 238, 2)) (kk : AW G X (pc + 2) ls ((3, 24) :: sk) n h cs ss) : AW G X pc ls sk n h cs ss := by
  intro ad H locs lr hR hl hm hs
  have hk := kk ad H locs lr hR hl hm (okp hs trivial)
  have hZ : vk_R RX2 238 "floor" (G.2.2 24) X.s := hC.nw.2 ("HorizonDues$Reader", 238, "floor", 24) (List.mem_of_getElem? (i := 17) rfl)
  exact va_ldcS hC.1 hC.2.1 hC.2.2.1 hZ hd hk
