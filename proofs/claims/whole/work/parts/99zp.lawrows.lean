/-! the law's own rows: its room, its script, its wrappers -/
section LawCalls
variable {G : GD} {X : CX} {own : String} {cc : ByteArray} {pc : Nat} {ls sk : List Av} {n : Nat} {h : Hp} {cs ss a : Nat}
variable {y : MethodName} {b : ByteArray} {mL : Nat} {r : Option FieldType} {d' mc' ms' idx : Nat} {av : List Av} {Q' : Av → Nat → Hp → Prop}
theorem awL_callV {C : String} {T : u_T} {N ci nf : Nat} {x : Int} (hC : Cx G X own cc) (hRm : X.R = room_1) (hd : decode cc pc = .ok (.invokevirtual idx, 3)) (hcl : vwCl[ci]? = some (C, T, N)) (hc : ci < 10) (hyc : y.cls = C)
    (hw : ∀ w ∈ ([.methodLink own idx y, .instanceMethod y, .selects C y y, .initialized C, .code y b mL r] : List Cond), w ∈ TB) (hdesc : y.cls ≠ "java/lang/invoke/MethodHandle" ∧ y.cls ≠ "java/lang/invoke/VarHandle" ∧ (parseMethodDescriptor y.desc).map (fun d => d.parameters.length) = some av.length)
    (hx : x = (a : Int)) (hL : LAY a = (ci, nf)) (han : (X.bt = true ∧ a < 69) ∨ a < n) (hdd : d' ≤ 2000) (hmL : mL ≤ 21) (hcm : cs + mc' ≤ 601024) (hsm : ss + ms' ≤ 7293034) (hcat : (sk.map (fun v => if v.1 = 1 then 2 else 1)).sum ≤ 8)
    (hM : Con G y b mL r d' mc' ms' X.bt ((2, x) :: av) n h Q')
    (kk : ∀ v n' h', n ≤ n' → Q' v n' h' → AW G X (pc + 3) ls (pushv v sk) n' h' (cs + mc') (ss + ms')) : AW G X pc ls (av.reverse ++ (2, x) :: sk) n h cs ss := by
  intro ad H locs lr hR hl hm hs
  have ha := hR.lt han
  have hs1 : ∀ v ∈ sk, okv n v := fun v hv => hs v (List.mem_append_right _ (List.mem_cons_of_mem _ hv))
  have hav : ∀ v ∈ (2, x) :: av, okv n v := fun v hv => by
    rcases List.mem_cons.mp hv with e | hv
    · rw [e]; exact hs _ (List.mem_append_right _ List.mem_cons_self)
    · exact hs v (List.mem_append_left _ (List.mem_reverse.mpr hv))
  have hMm := hM X.l ad H.size hR.2.2.2.1 hR.2.2.2.2.1 hav
  subst hx
  have hG : GoodIn TB (wsV own idx C y (wsM y b mL r)) := good_tb (fun w hw1 => by
    rcases List.mem_append.mp hw1 with h1 | h1
    · apply hw
      simp only [List.mem_cons, List.not_mem_nil, or_false] at h1 ⊢
      rcases h1 with h1 | h1 | h1 | h1 <;> simp [h1]
    · rcases List.mem_cons.mp h1 with h1 | h1
      · apply hw; rw [h1]; simp
      · exact h1)
  have hcatR : ((sk.map (rv G ad)).map fun v => v.category).sum ≤ 8 := by
    rw [List.map_map, show ((fun v => Value.category v) ∘ rv G ad) = (fun v : Av => if v.1 = 1 then 2 else 1) from funext (fun v => rv_cat G ad v)]
    exact hcat
  rw [List.map_cons, rv_at] at hMm
  refine aw_after hC hR hl hm hs1 (va_runV (C := C) (As := av.map (rv G ad)) (b := ad a) ⟨hC.1, hC.2.1, rfl, hC.2.2.1, hC.2.2.2.1⟩ hMm (cwV av.length hC.2.2.2.1 hG rfl rfl rfl ⟨hyc, hdesc.1, hdesc.2.1, hdesc.2.2⟩ ?_) ⟨pc_blind, va_recv hC.2.2.2.2.1 hR.1 hcl (q0 := a) (by rw [wl_get ha, encV_obj hL hc]), fun U hU hW => ⟨rfl, pc_here hC hR U hU hW⟩⟩ rfl (by rw [List.length_map]) (hl.1.trans hm.symm) ?_ (lv_room hcatR) hd ?_) kk
  · rw [hRm]; exact ⟨by show d' + 1 ≤ 2048; omega, by show 8 + (mL + 11) + 40 * d' ≤ 84000; omega⟩
  · rw [List.map_append, List.map_reverse, List.map_cons, rv_at]
  · rw [hRm]; exact ⟨hcm, hsm⟩
theorem awL_callI (hC : Cx G X own cc) (hRm : X.R = room_1) (hd : decode cc pc = .ok (.invokespecial idx, 3)) (hyn : y.name = "<init>")
    (hw : ∀ w ∈ ([.methodLink own idx y, .instanceMethod y, .initialized y.cls, .code y b mL none] : List Cond), w ∈ TB) (hdesc : y.cls ≠ "java/lang/invoke/MethodHandle" ∧ y.cls ≠ "java/lang/invoke/VarHandle" ∧ (parseMethodDescriptor y.desc).map (fun d => d.parameters.length) = some av.length)
    (hdd : d' ≤ 2000) (hmL : mL ≤ 21) (hcm : cs + mc' ≤ 601024) (hsm : ss + ms' ≤ 7293034) (hcat : (sk.map (fun v => if v.1 = 1 then 2 else 1)).sum ≤ 8)
    (hM : Con G y b mL none d' mc' ms' X.bt ((2, (a : Int)) :: av) n h Q')
    (kk : ∀ v n' h', n ≤ n' → Q' v n' h' → AW G X (pc + 3) ls (pushv v sk) n' h' (cs + mc') (ss + ms')) : AW G X pc ls (av.reverse ++ (2, (a : Int)) :: sk) n h cs ss := by
  intro ad H locs lr hR hl hm hs
  have hs1 : ∀ v ∈ sk, okv n v := fun v hv => hs v (List.mem_append_right _ (List.mem_cons_of_mem _ hv))
  have hav : ∀ v ∈ (2, (a : Int)) :: av, okv n v := fun v hv => by
    rcases List.mem_cons.mp hv with e | hv
    · rw [e]; exact hs _ (List.mem_append_right _ List.mem_cons_self)
    · exact hs v (List.mem_append_left _ (List.mem_reverse.mpr hv))
  have hMm := hM X.l ad H.size hR.2.2.2.1 hR.2.2.2.2.1 hav
  have hG : GoodIn TB (wsM y b mL none) := good_tb (fun w h1 => by
    rcases List.mem_cons.mp h1 with h1 | h1
    · apply hw; rw [h1]; simp
    · exact h1)
  have hcatR : ((sk.map (rv G ad)).map fun v => v.category).sum ≤ 8 := by
    rw [List.map_map, show ((fun v => Value.category v) ∘ rv G ad) = (fun v : Av => if v.1 = 1 then 2 else 1) from funext (fun v => rv_cat G ad v)]
    exact hcat
  rw [List.map_cons, rv_at] at hMm
  have hcc : Cond.code y b mL none ∈ wsM y b mL none := List.mem_cons_self
  have hcw : CallB X.R X.s X.args own idx y b mL none (wsM y b mL none) (rmd d' mc' ms') mc' ms' av.length := by
    refine ⟨rfl, rfl, ?_, ?_, pay_in hC.2.2.2.1 hG, hcc, hC.2.2.2.1 _ (hw _ (by simp)), hC.2.2.2.1 _ (hw _ (by simp)), ⟨hdesc.1, hdesc.2.1⟩, fun sig h => ?_, hC.2.2.2.1 _ (hw _ (by simp))⟩
    · rw [hRm]; show d' + 1 ≤ 2048; omega
    · rw [hRm]; show 8 + (mL + 11) + 40 * d' ≤ 84000; omega
    · have h2 := hdesc.2.2
      rw [h] at h2
      exact (Option.some.inj h2).symm
  refine aw_after hC hR hl hm hs1 (va_runI (As := av.map (rv G ad)) (b := ad a) ⟨hC.1, hC.2.1, rfl, hC.2.2.1, hC.2.2.2.1⟩ hMm ⟨hcw, hyn, hC.2.2.2.1 _ (hw _ (by simp))⟩ ⟨pc_blind, fun U hU hW => ⟨rfl, pc_here hC hR U hU hW⟩⟩ rfl (by rw [List.length_map]) (hl.1.trans hm.symm) ?_ (lv_room hcatR) hd ?_) kk
  · rw [List.map_append, List.map_reverse, List.map_cons, rv_at]
  · rw [hRm]; exact ⟨hcm, hsm⟩
theorem awL_callS {hh : List (Nat × Nat × Nat × Nat)} (hst : X.l.stackTraces = false) (hbt : X.bt = true) (hC : Cx G X own cc) (hRm : X.R = room_1) (hd : decode cc pc = .ok (.invokestatic idx, 3))
    (hw : ∀ w ∈ ([.methodLink own idx y, .static y, .initialized y.cls, .codeWith y b mL r hh] : List Cond), w ∈ TB) (hdesc : y.cls ≠ "java/lang/invoke/MethodHandle" ∧ y.cls ≠ "java/lang/invoke/VarHandle" ∧ (parseMethodDescriptor y.desc).map (fun d => d.parameters.length) = some av.length)
    (hdd : d' ≤ 2000) (hmL : mL ≤ 21) (hcm : cs + 1 ≤ 601024) (hsm : ss + 6 ≤ 7293034) (hcat : (sk.map (fun v => if v.1 = 1 then 2 else 1)).sum ≤ 8)
    (hM : ConH G y b mL r hh d' av n h Q')
    (kk : ∀ v n' h', n ≤ n' → Q' v n' h' → AW G X (pc + 3) ls (pushv v sk) n' h' (cs + 1) (ss + 6)) : AW G X pc ls (av.reverse ++ sk) n h cs ss := by
  intro ad H locs lr hR hl hm hs
  have hs1 : ∀ v ∈ sk, okv n v := fun v hv => hs v (List.mem_append_right _ hv)
  have hav : ∀ v ∈ av, okv n v := fun v hv => hs v (List.mem_append_left _ (List.mem_reverse.mpr hv))
  have hMm := hM X.l ad H.size hst hR.2.2.2.1 (hR.2.2.2.2.1 hbt) hav
  have hG : GoodIn TB (va_wsS own idx y (wsH y b mL r hh)) := good_tb (fun w hw1 => by
    rcases List.mem_append.mp hw1 with h1 | h1
    · apply hw
      simp only [List.mem_cons, List.not_mem_nil, or_false] at h1 ⊢
      rcases h1 with h1 | h1 | h1 <;> simp [h1]
    · rcases List.mem_cons.mp h1 with h1 | h1
      · apply hw; rw [h1]; simp
      · exact h1)
  have hcatR : ((sk.map (rv G ad)).map fun v => v.category).sum ≤ 8 := by
    rw [List.map_map, show ((fun v => Value.category v) ∘ rv G ad) = (fun v : Av => if v.1 = 1 then 2 else 1) from funext (fun v => rv_cat G ad v)]
    exact hcat
  rw [← hbt] at hMm
  refine aw_after hC hR hl hm hs1 (vx_runSW (hh := hh) (As := av.map (rv G ad)) ⟨hC.1, hC.2.1, rfl, hC.2.2.1, hC.2.2.2.1⟩ hMm (vx_cwSW (hh := hh) av.length hC.2.2.2.1 hG rfl rfl rfl hdesc ?_) ⟨pc_blind, fun U hU hW => ⟨rfl, pc_here hC hR U hU hW⟩⟩ rfl (by rw [List.length_map]) (hl.1.trans hm.symm) ?_ (lv_room hcatR) hd ?_) kk
  · rw [hRm]; exact ⟨by show d' + 1 ≤ 2048; omega, by show 8 + (mL + 11) + 40 * d' ≤ 84000; omega⟩
  · rw [List.map_append, List.map_reverse]
  · rw [hRm]; exact ⟨hcm, hsm⟩
end LawCalls
theorem rv6 {G : GD} {ad : Nat → Nat} {x : Nat} : rv G ad (6, (x : Int)) = .ref x := by
  show (if (x : Int) < 0 then Value.null else .ref (x : Int).toNat) = _
  rw [if_neg (by omega)]
  rfl
section LawRows
variable {G : GD} {X : CX} {own : String} {cc : ByteArray} {pc : Nat} {ls sk : List Av} {n : Nat} {h : Hp} {cs ss : Nat} {b L : Nat} {xs : Nat → Int32}
theorem awL_aload0 {j : Fin 4} (hC : Cx G X own cc) (hd : decode cc pc = .ok (.aload_n j, 1)) (hj : ls[(j : Nat)]? = some (6, (b : Int))) (k : AW G X (pc + 1) ls ((6, (b : Int)) :: sk) n h cs ss) : AW G X pc ls sk n h cs ss := by
  intro ad H locs lr hR hl hm hs
  obtain ⟨h1, h2⟩ := hl.2.2 _ _ hj (by simp)
  have hk := k ad H locs lr hR hl hm (okp hs h2)
  rw [List.map_cons, rv6] at hk
  rw [rv6] at h1
  exact lv_aload_n hC.1 hC.2.1 hd rfl h1 hk
theorem awL_slen (hC : Cx G X own cc) (hX : va_X b L xs X.s X.s.heap) (hb : b < X.s.heap.size) (hA : ¬ X.A b) (hL : L ≤ 3072) (hd : decode cc pc = .ok (.arraylength, 1)) (k : AW G X (pc + 1) ls ((0, (L : Int)) :: sk) n h cs ss) : AW G X pc ls ((6, (b : Int)) :: sk) n h cs ss := by
  intro ad H locs lr hR hl hm hs
  have hk := k ad H locs lr hR hl hm (okp (ok1 hs) (show in32 (L : Int) by unfold in32; omega))
  rw [List.map_cons] at hk ⊢
  rw [rv6]
  exact va_slen hC.1 hC.2.1 hX hb hA hR.2.2.1 hd hk
theorem awL_sld {i : Int} (hC : Cx G X own cc) (hX : va_X b L xs X.s X.s.heap) (hb : b < X.s.heap.size) (hA : ¬ X.A b) (h0 : 0 ≤ i) (h1 : i < L) (hd : decode cc pc = .ok (.iaload, 1)) (k : AW G X (pc + 1) ls ((0, (xs i.toNat).toInt) :: sk) n h cs ss) : AW G X pc ls ((0, i) :: (6, (b : Int)) :: sk) n h cs ss := by
  intro ad H locs lr hR hl hm hs
  have hi : in32 i := okt hs
  have hk := k ad H locs lr hR hl hm (okp (ok1 (ok1 hs)) (i32_rng _))
  rw [List.map_cons] at hk
  rw [List.map_cons, List.map_cons, rv6]
  refine va_sld hC.1 hC.2.1 hX hb hA hR.2.2.1 (vp_in_of32 hi h0 h1) hd ?_
  rw [i32_clamp hi]
  have e : rv G ad (0, (xs i.toNat).toInt) = .int (xs i.toNat) := by show Value.int (Int32.ofInt _) = _; rw [i32_to]
  rw [e] at hk
  exact hk
theorem awL_widen {cs' ss' : Nat} (h1 : cs ≤ cs') (h2 : ss ≤ ss') (k : AW G X pc ls sk n h cs' ss') : AW G X pc ls sk n h cs ss := fun ad H locs lr hR hl hm hs => W.widen h1 h2 (k ad H locs lr hR hl hm hs)
theorem awL_drop {a0 a1 a2 a3 a4 a5 a6 a7 : Av} (k : AW G X pc [a0, a1, a2, a3, a4, (9, 0), (9, 0), (9, 0)] sk n h cs ss) : AW G X pc [a0, a1, a2, a3, a4, a5, a6, a7] sk n h cs ss := by
  intro ad H locs lr hR hl hm hs
  refine k ad H locs lr hR ⟨hl.1, hl.2.1, fun i u hu h9 => ?_⟩ hm hs
  match i, hu with
  | 0, hu => exact hl.2.2 0 u hu h9
  | 1, hu => exact hl.2.2 1 u hu h9
  | 2, hu => exact hl.2.2 2 u hu h9
  | 3, hu => exact hl.2.2 3 u hu h9
  | 4, hu => exact hl.2.2 4 u hu h9
  | 5, hu => cases hu; exact absurd rfl h9
  | 6, hu => cases hu; exact absurd rfl h9
  | 7, hu => cases hu; exact absurd rfl h9
  | i + 8, hu => simp at hu
theorem awL_bt {p : Program} {l : Launch} {e : Env} {R : Room} {s : State} {m : MethodId} {args : Array Value} {below : List Frame} {meth : Method} {c : Code} {Z : State → Prop} {A : Nat → Prop} {ad0 : Nat → Nat} {n0 : Nat} (hs : ShN n h) (k : AW G (p, l, e, R, s, m, args, below, meth, c, Z, A, ad0, n0, true) pc ls sk n h cs ss) : AW G (p, l, e, R, s, m, args, below, meth, c, Z, A, ad0, n0, false) pc ls sk n h cs ss := by
  intro ad H locs lr hR hl hm hk
  exact k ad H locs lr ⟨hR.1, hR.2.1, hR.2.2.1, hR.2.2.2.1, fun _ => hs, hR.2.2.2.2.2.1, hR.2.2.2.2.2.2⟩ hl hm hk
/-- where the law stands: its code, its room, its script of L ints -/
def LX (G : GD) (X : CX) (b L : Nat) (xs : Nat → Int32) : Prop := Cx G X RL cL_law ∧ X.R = room_1 ∧ X.bt = true ∧ X.l.stackTraces = false ∧ va_X b L xs X.s X.s.heap ∧ b < X.s.heap.size ∧ ¬ X.A b ∧ L ≤ 3072
/-- the k-th number of the call that begins at i -/
def xv (xs : Nat → Int32) (i k : Int) : Int := (xs (i + k).toNat).toInt
theorem xv_in (xs : Nat → Int32) (i k : Int) : in32 (xv xs i k) := i32_rng _
theorem awL_arg {i k : Int} (hX : LX G X b L xs) (hi : 0 ≤ i ∧ i + 6 ≤ L) (h0 : ls[0]? = some (6, (b : Int))) (h4 : ls[4]? = some (0, i)) (d0 : decode cL_law pc = .ok (.aload_n 0, 1)) (d1 : decode cL_law (pc + 1) = .ok (.iload 4, 2)) (d2 : decode cL_law (pc + 3) = .ok (.iconst k, 1)) (d3 : decode cL_law (pc + 4) = .ok (.iadd, 1)) (d4 : decode cL_law (pc + 5) = .ok (.iaload, 1)) (hk : 1 ≤ k ∧ k ≤ 5) (kk : AW G X (pc + 6) ls ((0, xv xs i k) :: sk) n h cs ss) : AW G X pc ls sk n h cs ss := by
  obtain ⟨hC, -, -, -, hx, hb, hA, hL⟩ := hX
  refine awL_aload0 hC d0 h0 ?_
  refine aw_iload hC d1 h4 ?_
  refine aw_iconst hC d2 (by unfold in32; omega) ?_
  refine aw_iadd hC d3 ?_
  rw [i_add_eq (by unfold in32; omega)]
  exact awL_sld hC hx hb hA (by omega) (by omega) d4 kk
end LawRows
